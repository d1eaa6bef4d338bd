/-! The tree: what is added keeps it. -/
/-- a character at the end of node w's content, in the class and in the model -/
def zPu (a a' : qM) (w C x : Int) : Prop := (∀ r, r ≠ 72 → r ≠ 78 → r ≠ 79 → r ≠ 80 → a' r = a r) ∧ (a' 79 1 = C + 1) ∧ (a' 80 = q_u (a 80) C x) ∧ (a' 78 = q_u (a 78) w (a 78 w + 1)) ∧ (a' 72 = q_u (a 72) w (a 78 w + 1))
theorem zPu.mk {a a' : qM} {w C x : Int} (fr : ∀ r, r ≠ 72 → r ≠ 78 → r ≠ 79 → r ≠ 80 → a' r = a r) (f79 : a' 79 1 = C + 1) (f80 : a' 80 = q_u (a 80) C x) (f78 : a' 78 = q_u (a 78) w (a 78 w + 1)) (f72 : a' 72 = q_u (a 72) w (a 78 w + 1)) : zPu a a' w C x := ⟨fr, f79, f80, f78, f72⟩
theorem zPu.fr {a a' : qM} {w C x : Int} (h : zPu a a' w C x) : ∀ r, r ≠ 72 → r ≠ 78 → r ≠ 79 → r ≠ 80 → a' r = a r := h.1
theorem zPu.f79 {a a' : qM} {w C x : Int} (h : zPu a a' w C x) : a' 79 1 = C + 1 := h.2.1
theorem zPu.f80 {a a' : qM} {w C x : Int} (h : zPu a a' w C x) : a' 80 = q_u (a 80) C x := h.2.2.1
theorem zPu.f78 {a a' : qM} {w C x : Int} (h : zPu a a' w C x) : a' 78 = q_u (a 78) w (a 78 w + 1) := h.2.2.2.1
theorem zPu.f72 {a a' : qM} {w C x : Int} (h : zPu a a' w C x) : a' 72 = q_u (a 72) w (a 78 w + 1) := h.2.2.2.2
def zPx (b b' : qM) (w D x : Int) : Prop := (∀ r, r ≠ 113 → r ≠ 134 → r ≠ 152 → b' r = b r) ∧ (∀ j, j ≠ 51 → j ≠ 55 → b' 113 j = b 113 j) ∧ (b' 113 51 = D + 1) ∧ (b' 134 = q_u (b 134) w (b 134 w + 1)) ∧ (b' 152 = q_u (b 152) D x)
theorem zPx.mk {b b' : qM} {w D x : Int} (fr : ∀ r, r ≠ 113 → r ≠ 134 → r ≠ 152 → b' r = b r) (f113 : ∀ j, j ≠ 51 → j ≠ 55 → b' 113 j = b 113 j) (f51 : b' 113 51 = D + 1) (f134 : b' 134 = q_u (b 134) w (b 134 w + 1)) (f152 : b' 152 = q_u (b 152) D x) : zPx b b' w D x := ⟨fr, f113, f51, f134, f152⟩
theorem zPx.fr {b b' : qM} {w D x : Int} (h : zPx b b' w D x) : ∀ r, r ≠ 113 → r ≠ 134 → r ≠ 152 → b' r = b r := h.1
theorem zPx.f113 {b b' : qM} {w D x : Int} (h : zPx b b' w D x) : ∀ j, j ≠ 51 → j ≠ 55 → b' 113 j = b 113 j := h.2.1
theorem zPx.f51 {b b' : qM} {w D x : Int} (h : zPx b b' w D x) : b' 113 51 = D + 1 := h.2.2.1
theorem zPx.f134 {b b' : qM} {w D x : Int} (h : zPx b b' w D x) : b' 134 = q_u (b 134) w (b 134 w + 1) := h.2.2.2.1
theorem zPx.f152 {b b' : qM} {w D x : Int} (h : zPx b b' w D x) : b' 152 = q_u (b 152) D x := h.2.2.2.2
section Walk
variable {X : Nat × (Nat → Int32)} {a b a' b' : qM} {K : Int → qM → Prop} {KV : qM → Prop} {v C D κ par σ told w x : Int}
theorem zLk.fr (h : zLk a b σ x) (e37 : a' 37 = a 37) (e38 : a' 38 = a 38) (e41 : a' 41 = a 41) (e42 : a' 42 = a 42) (e117 : b' 117 = b 117) : zLk a' b' σ x := by
  unfold zLk; rw [e37, e38, e41, e42, e117]; exact h
theorem zTr.chn {c' d' : qM} {i : Int} (T : zTr a b v C D) (pp : (v = 0 ∧ par = -1) ∨ (0 < v ∧ 0 ≤ par ∧ par < v)) (h70 : c' 70 = if 0 ≤ par then q_u (q_u (a 70) v 0) par (a 70 par + 1) else q_u (a 70) v 0) (g133 : d' 133 = if 0 ≤ par then q_u (q_u (b 133) v 0) par (b 133 par + 1) else q_u (b 133) v 0) (i0 : 0 ≤ i) (iv : i < v + 1) : c' 70 i = d' 133 i ∧ 0 ≤ d' 133 i ∧ d' 133 i ≤ v + 1 := by
  rw [h70, g133]
  rcases pp with ⟨e1, e2⟩ | ⟨e1, e2, e3⟩
  · rw [if_neg (by omega), if_neg (by omega), show i = v by omega, q_u_at, q_u_at]
    exact ⟨rfl, Int.le_refl 0, by omega⟩
  · rw [if_pos e2, if_pos e2]
    obtain ⟨_, _, p3, _, _, _, _, _, p5, p6⟩ := T.nd par e2 e3
    by_cases ip : i = par
    · rw [ip, q_u_at, q_u_at, p3]; exact ⟨rfl, by omega, by omega⟩
    · rw [q_u_ne ip, q_u_ne ip]
      by_cases iv' : i = v
      · rw [iv', q_u_at, q_u_at]; exact ⟨rfl, Int.le_refl 0, by omega⟩
      · obtain ⟨_, _, r3, _, _, _, _, _, r5, r6⟩ := T.nd i i0 (by omega)
        rw [q_u_ne iv', q_u_ne iv']; exact ⟨r3, r5, by omega⟩
theorem z_pp (pp : (v = 0 ∧ par = -1) ∨ (0 < v ∧ 0 ≤ par ∧ par < v)) : (v = 0 → par = -1) ∧ (0 < v → 0 ≤ par ∧ par < v) := by
  rcases pp with ⟨e1, e2⟩ | ⟨e1, e2⟩
  · exact ⟨fun _ => e2, fun z => by omega⟩
  · exact ⟨fun z => by omega, fun _ => e2⟩
theorem z_ltv {i : Int} (h : i < v + 1) (e : i ≠ v) : i < v := by omega
theorem z_nn1 (h : 0 ≤ v) : 0 ≤ v + 1 := by omega
theorem z_add0 : v + 0 ≤ v := by omega
theorem z_nlt {i : Int} (h : 0 ≤ i) (g : i < 0) : False := by omega
theorem zKid_congr {f g : Int → Int} {i : Int} : ∀ n : Nat, (∀ j : Nat, j < n → g j = f j) → zKid g i n = zKid f i n
  | 0, _ => rfl
  | n + 1, h => by
    show zKid g i n + (if g (n : Int) = i then 1 else 0) = zKid f i n + (if f (n : Int) = i then 1 else 0)
    rw [zKid_congr n (fun j hj => h j (by omega)), h n (by omega)]
theorem zKid_no {f : Int → Int} {i : Int} : ∀ n : Nat, (∀ j : Nat, j < n → f j ≠ i) → zKid f i n = 0
  | 0, _ => rfl
  | n + 1, h => by
    show zKid f i n + (if f (n : Int) = i then 1 else 0) = 0
    rw [zKid_no n (fun j hj => h j (by omega)), if_neg (h n (by omega))]; rfl
theorem zTr.kcn {d' : qM} {i : Int} (T : zTr a b v C D) (v0 : 0 ≤ v) (pp : (v = 0 ∧ par = -1) ∨ (0 < v ∧ 0 ≤ par ∧ par < v)) (g132 : d' 132 = q_u (b 132) v par) (g133 : d' 133 = if 0 ≤ par then q_u (q_u (b 133) v 0) par (b 133 par + 1) else q_u (b 133) v 0) (i0 : 0 ≤ i) (iv : i < v + 1) : d' 133 i = zKid (d' 132) i (v + 1).toNat := by
  have e : (v + 1).toNat = v.toNat + 1 := by omega
  have ev : ((v.toNat : Nat) : Int) = v := by omega
  have lo : zKid (d' 132) i v.toNat = zKid (b 132) i v.toNat := zKid_congr _ (fun j hj => by rw [g132, q_u_ne (by omega)])
  rw [e]
  show d' 133 i = zKid (d' 132) i v.toNat + (if d' 132 ((v.toNat : Nat) : Int) = i then 1 else 0)
  rw [lo, ev, g132, q_u_at, g133]
  by_cases iv' : i = v
  · have z : zKid (b 132) i v.toNat = 0 := zKid_no _ (fun j hj => by
      have h := T.nd j (by omega) (by omega)
      by_cases j0 : (j : Int) = 0
      · have := h.2.2.2.2.2.2.1 j0; omega
      · have := h.2.2.2.2.2.2.2.1 (by omega); omega)
    rw [z, if_neg (show ¬ par = i by omega)]
    by_cases p0 : 0 ≤ par
    · rw [if_pos p0, q_u_ne (by omega), iv', q_u_at]; rfl
    · rw [if_neg p0, iv', q_u_at]; rfl
  · have k := T.kc i i0 (by omega)
    by_cases p0 : 0 ≤ par
    · rw [if_pos p0]
      by_cases ip : par = i
      · rw [if_pos ip, ← ip, q_u_at, ip, k]
      · rw [if_neg ip, q_u_ne (Ne.symm ip), q_u_ne iv', k]; exact (Int.add_zero _).symm
    · rw [if_neg p0, q_u_ne iv', if_neg (show ¬ par = i by omega), k]; exact (Int.add_zero _).symm
theorem zTr.pren {d' : qM} (T : zTr a b v C D) (hpre : ∀ j, 0 ≤ par → par < j → j < v → par ≤ b 132 j) (v0 : 0 ≤ v) (pp : (v = 0 ∧ par = -1) ∨ (0 < v ∧ 0 ≤ par ∧ par < v)) (g132 : d' 132 = q_u (b 132) v par) {k j : Int} (k1 : 1 ≤ k) (kn : k < v + 1) (u : d' 132 k < j) (w : j < k) : d' 132 k ≤ d' 132 j := by
  rw [g132] at u ⊢
  rw [q_u_ne (show j ≠ v by omega)]
  by_cases e : k = v
  · rw [e, q_u_at] at u ⊢; exact hpre j (by omega) u (by omega)
  · rw [q_u_ne e] at u ⊢; exact T.pre k j k1 (by omega) u w
theorem zTr.smn (T : zTr a b v C D) (v0 : 0 ≤ v) {f : Int → Int} (h : f = q_u (a 78) v 0) : zSig f (v + 1).toNat = C := by
  have e : (v + 1).toNat = v.toNat + 1 := by omega
  have ev : ((v.toNat : Nat) : Int) = v := by omega
  rw [e]
  show zSig f v.toNat + f ((v.toNat : Nat) : Int) = C
  rw [ev, h, q_u_at, zSig_congr (f := q_u (a 78) v 0) (g := a 78) _ (fun k _ w => q_u_ne (by omega)), T.sm]
  exact Int.add_zero C
theorem zTr.tln {d' : qM} {i : Int} (T : zTr a b v C D) (tn : 0 ≤ told) (t4 : κ = 4 → told ≤ 3) (g131 : d' 131 = q_u (b 131) v κ) (g134 : d' 134 = q_u (b 134) v told) (i0 : 0 ≤ i) (iv : i < v + 1) : 0 ≤ d' 134 i ∧ (d' 131 i = 4 → d' 134 i ≤ 3) := by
  rw [g131, g134]
  by_cases e : i = v
  · rw [e, q_u_at, q_u_at]; exact ⟨tn, t4⟩
  · rw [q_u_ne e, q_u_ne e]; exact T.tl i i0 (by omega)
theorem zTr.add {c' d' : qM} (T : zTr a b v C D) (A : zNa a a' v κ par σ C) (B : zNb2 b b' v κ par told D) (k0 : 0 ≤ κ ∧ κ ≤ 12) (pp : (v = 0 ∧ par = -1) ∨ (0 < v ∧ 0 ≤ par ∧ par < v)) (hpre : ∀ j, 0 ≤ par → par < j → j < v → par ≤ b 132 j) (t0 : κ = 8 ∨ κ = 11 → told = 0) (s4 : κ = 4 → σ = 100 + told) (s2 : κ = 2 → σ = told) (s12 : κ = 12 → zLk a b σ (d' 136 v)) (so : κ ≠ 2 → κ ≠ 4 → κ ≠ 12 → σ = -1)
    (fa : ∀ r, r ≠ 72 → c' r = a' r) (f72 : ∀ i, i ≠ v → c' 72 i = a' 72 i) (g72 : c' 72 v = told) (fb : ∀ r, r ≠ 113 → r ≠ 135 → r ≠ 136 → r ≠ 137 → d' r = b' r) (f113 : d' 113 20 = b' 113 20 ∧ d' 113 51 = b' 113 51) (f136 : ∀ i, i ≠ v → d' 136 i = b 136 i) (tn : 0 ≤ told) (tq : κ = 4 → told ≤ 3) : zTr c' d' (v + 1) C D := by
  obtain ⟨t1, t2, t3, t4, t5, t6, t7, t8, t9, t10, t11, t12, t13⟩ := T.sz
  obtain ⟨u1, u2, u3, u4, u5, u6, u7⟩ := A.sz
  have g131 : d' 131 = q_u (b 131) v κ := by rw [fb 131 (by decide) (by decide) (by decide) (by decide)]; exact B.f131
  have g132 : d' 132 = q_u (b 132) v par := by rw [fb 132 (by decide) (by decide) (by decide) (by decide)]; exact B.f132
  have g133 : d' 133 = if 0 ≤ par then q_u (q_u (b 133) v 0) par (b 133 par + 1) else q_u (b 133) v 0 := by rw [fb 133 (by decide) (by decide) (by decide) (by decide)]; exact B.f133
  have g134 : d' 134 = q_u (b 134) v told := by rw [fb 134 (by decide) (by decide) (by decide) (by decide)]; exact B.f134
  have g153 : d' 153 = q_u (b 153) v D := by rw [fb 153 (by decide) (by decide) (by decide) (by decide)]; exact B.f153
  have g152 : d' 152 = b 152 := by rw [fb 152 (by decide) (by decide) (by decide) (by decide)]; exact B.fr 152 (by decide) (by decide) (by decide) (by decide) (by decide) (by decide) (by decide)
  have g117 : d' 117 = b 117 := by rw [fb 117 (by decide) (by decide) (by decide) (by decide)]; exact B.fr 117 (by decide) (by decide) (by decide) (by decide) (by decide) (by decide) (by decide)
  have h66 : c' 66 = q_u (a 66) v κ := by rw [fa 66 (by decide)]; exact A.f66
  have h68 : c' 68 = q_u (a 68) v par := by rw [fa 68 (by decide)]; exact A.f68
  have h70 : c' 70 = if 0 ≤ par then q_u (q_u (a 70) v 0) par (a 70 par + 1) else q_u (a 70) v 0 := by rw [fa 70 (by decide)]; exact A.f70
  have h74 : c' 74 = q_u (a 74) v σ := by rw [fa 74 (by decide)]; exact A.f74
  have h76 : c' 76 = q_u (a 76) v C := by rw [fa 76 (by decide)]; exact A.f76
  have h78 : c' 78 = q_u (a 78) v 0 := by rw [fa 78 (by decide)]; exact A.f78
  have h80 : c' 80 = a 80 := by rw [fa 80 (by decide)]; exact A.fr 80 (by decide)
  have o72 : ∀ i, i ≠ v → c' 72 i = a 72 i := fun i hi => by rw [f72 i hi, A.f72, q_u_ne hi]
  have lk : ∀ {s y : Int}, zLk a b s y → zLk c' d' s y := fun h => h.fr (by rw [fa 37 (by decide)]; exact A.fr 37 (by decide)) (by rw [fa 38 (by decide)]; exact A.fr 38 (by decide)) (by rw [fa 41 (by decide)]; exact A.fr 41 (by decide)) (by rw [fa 42 (by decide)]; exact A.fr 42 (by decide)) g117
  refine zTr.mk ⟨by rw [fa 65 (by decide)]; exact u1, by rw [fa 67 (by decide)]; exact u2, by rw [fa 69 (by decide)]; exact u3, by rw [fa 71 (by decide)]; exact u4, by rw [fa 73 (by decide)]; exact u5, by rw [fa 75 (by decide)]; exact u6, by rw [fa 77 (by decide)]; exact u7, by rw [fa 79 (by decide), A.fr 79 (by decide)]; exact t8, by rw [f113.1]; exact B.f20, by rw [f113.2, B.f113 51 (by decide)]; exact t10, z_nn1 t11, t12, t13⟩ (fun i i0 iv => ?_) (fun i i0 iv => ?_) (fun i i0 iv => ?_) (fun i i0 iv => T.kcn t11 pp g132 g133 i0 iv) (fun k j k1 kn u w => T.pren hpre t11 pp g132 k1 kn u w) (T.smn t11 h78) (fun i i0 iv => T.tln tn tq g131 g134 i0 iv)
  · have hc := T.chn (i := i) pp h70 g133 i0 iv
    rw [h66, g131, h68, g132, g134]
    by_cases e : i = v
    · rw [e] at hc ⊢
      rw [q_u_at, q_u_at, q_u_at, q_u_at, q_u_at, g72]
      exact ⟨rfl, rfl, hc.1, rfl, k0.1, k0.2, (z_pp pp).1, (z_pp pp).2, hc.2⟩
    · rw [q_u_ne e, q_u_ne e, q_u_ne e, q_u_ne e, q_u_ne e, o72 i e]
      have hi := T.nd i i0 (z_ltv iv e)
      exact ⟨hi.1, hi.2.1, hc.1, hi.2.2.2.1, hi.2.2.2.2.1, hi.2.2.2.2.2.1, hi.2.2.2.2.2.2.1, hi.2.2.2.2.2.2.2.1, hc.2⟩
  · rw [g131, h74, g134]
    by_cases e : i = v
    · rw [e, q_u_at, q_u_at, q_u_at]
      exact ⟨s4, s2, fun z => lk (s12 z), so⟩
    · rw [q_u_ne e, q_u_ne e, q_u_ne e, f136 i e]
      have hi := T.sg i i0 (z_ltv iv e)
      exact ⟨hi.1, hi.2.1, fun z => lk (hi.2.2.1 z), hi.2.2.2⟩
  · rw [h76, h78, h80, g131, g134, g153, g152]
    by_cases e : i = v
    · rw [e, q_u_at, q_u_at, q_u_at, q_u_at, q_u_at]
      exact ⟨t12, Int.le_refl 0, z_add0, fun z => ⟨(t0 z).symm, t13, by rw [t0 z]; exact z_add0, fun j j0 jt => by rw [t0 z] at jt; exact (z_nlt j0 jt).elim⟩, fun _ _ _ => rfl⟩
    · rw [q_u_ne e, q_u_ne e, q_u_ne e, q_u_ne e, q_u_ne e]
      exact T.ct i i0 (z_ltv iv e)
theorem zTr.put (T : zTr a b v C D) (A : zPu a a' w C x) (B : zPx b b' w D x) (w0 : 0 ≤ w) (wv : w < v) (kw : b 131 w = 8 ∨ b 131 w = 11) (eC : a 76 w + a 78 w = C) (eD : b 153 w + b 134 w = D) : zTr a' b' v (C + 1) (D + 1) ∧ a' 76 w + a' 78 w = C + 1 ∧ b' 153 w + b' 134 w = D + 1 := by
  obtain ⟨t1, t2, t3, t4, t5, t6, t7, t8, t9, t10, t11, t12, t13⟩ := T.sz
  have g131 : b' 131 = b 131 := B.fr 131 (by decide) (by decide) (by decide)
  have g153 : b' 153 = b 153 := B.fr 153 (by decide) (by decide) (by decide)
  have h76 : a' 76 = a 76 := A.fr 76 (by decide) (by decide) (by decide) (by decide)
  have cw := T.ct w w0 wv
  have cw2 := cw.2.2.2.1 kw
  have lk : ∀ {s y : Int}, zLk a b s y → zLk a' b' s y := fun h => h.fr (A.fr 37 (by decide) (by decide) (by decide) (by decide)) (A.fr 38 (by decide) (by decide) (by decide) (by decide)) (A.fr 41 (by decide) (by decide) (by decide) (by decide)) (A.fr 42 (by decide) (by decide) (by decide) (by decide)) (B.fr 117 (by decide) (by decide) (by decide))
  refine ⟨zTr.mk ⟨?_, ?_, ?_, ?_, ?_, ?_, ?_, A.f79, by rw [B.f113 20 (by decide) (by decide)]; exact t9, B.f51, t11, by omega, by omega⟩ (fun i i0 iv => ?_) (fun i i0 iv => ?_) (fun i i0 iv => ?_) (by rw [B.fr 132 (by decide) (by decide) (by decide), B.fr 133 (by decide) (by decide) (by decide)]; exact T.kc) (by rw [B.fr 132 (by decide) (by decide) (by decide)]; exact T.pre) (by rw [A.f78, zSig_upd (f := a 78) (x := w) (d := 1) w0 q_u_at v.toNat (by omega) (fun k _ _ hk => q_u_ne hk), T.sm]) (fun i i0 iv => ?_), by rw [h76, A.f78, q_u_at]; omega, by rw [g153, B.f134, q_u_at]; omega⟩
  · rw [A.fr 65 (by decide) (by decide) (by decide) (by decide)]; exact t1
  · rw [A.fr 67 (by decide) (by decide) (by decide) (by decide)]; exact t2
  · rw [A.fr 69 (by decide) (by decide) (by decide) (by decide)]; exact t3
  · rw [A.fr 71 (by decide) (by decide) (by decide) (by decide)]; exact t4
  · rw [A.fr 73 (by decide) (by decide) (by decide) (by decide)]; exact t5
  · rw [A.fr 75 (by decide) (by decide) (by decide) (by decide)]; exact t6
  · rw [A.fr 77 (by decide) (by decide) (by decide) (by decide)]; exact t7
  · rw [A.fr 66 (by decide) (by decide) (by decide) (by decide), A.fr 68 (by decide) (by decide) (by decide) (by decide), A.fr 70 (by decide) (by decide) (by decide) (by decide), g131, B.fr 132 (by decide) (by decide) (by decide), B.fr 133 (by decide) (by decide) (by decide), A.f72, B.f134]
    have hi := T.nd i i0 iv
    refine ⟨hi.1, hi.2.1, hi.2.2.1, ?_, hi.2.2.2.2⟩
    by_cases e : i = w
    · rw [e, q_u_at, q_u_at, cw2.1]
    · rw [q_u_ne e, q_u_ne e]; exact hi.2.2.2.1
  · have hi := T.sg i i0 iv
    rw [A.fr 74 (by decide) (by decide) (by decide) (by decide), g131, B.fr 136 (by decide) (by decide) (by decide)]
    refine ⟨fun z => ?_, fun z => ?_, fun z => lk (hi.2.2.1 z), hi.2.2.2⟩
    · rw [B.f134, q_u_ne (fun e => by rw [e] at z; omega)]; exact hi.1 z
    · rw [B.f134, q_u_ne (fun e => by rw [e] at z; omega)]; exact hi.2.1 z
  · have hi := T.ct i i0 iv
    rw [h76, A.f78, A.f80, g131, B.f134, g153, B.f152]
    by_cases e : i = w
    · rw [e, q_u_at, q_u_at]
      refine ⟨cw.1, by omega, by omega, fun _ => ⟨by rw [cw2.1], cw2.2.1, by omega, fun j j0 jt => ?_⟩, fun _ z1 z2 => by omega⟩
      by_cases ej : j = b 134 w
      · rw [ej, show a 76 w + b 134 w = C by omega, eD, q_u_at, q_u_at]
      · rw [q_u_ne (by omega), q_u_ne (by omega)]; exact cw2.2.2.2 j j0 (by omega)
    · rw [q_u_ne e, q_u_ne e]
      refine ⟨hi.1, hi.2.1, by omega, fun z => ?_, hi.2.2.2.2⟩
      have h := hi.2.2.2.1 z
      refine ⟨h.1, h.2.1, by omega, fun j j0 jt => ?_⟩
      rw [q_u_ne (by omega), q_u_ne (by omega)]; exact h.2.2.2 j j0 jt
  · have hi := T.tl i i0 iv
    rw [B.f134, g131]
    by_cases e : i = w
    · have hw := T.tl w w0 wv
      rw [e, q_u_at]; exact ⟨by omega, fun z => by omega⟩
    · rw [q_u_ne e]; exact hi
/-- the class puts a character -/
theorem k_Tree_addContent (sz : a 77 1 = v ∧ a 79 1 = C) (v2 : v ≤ 482) (C0 : 0 ≤ C) (C2 : C < 481) (w0 : 0 ≤ w) (wv : w < v) (hs : 0 ≤ a 78 w ∧ a 78 w ≤ 481) (h : ∀ a', (∀ r, r ≠ 78 → r ≠ 79 → r ≠ 80 → a' r = a r) → a' 79 1 = C + 1 → a' 80 = q_u (a 80) C x → a' 78 = q_u (a 78) w (a 78 w + 1) → KV a') : c_Tree_addContent X w x a KV := by
  obtain ⟨s1, s2⟩ := sz
  refine sg_Tree_addContent (k_Row_add q_row_79 (by omega) (by omega) ?_)
  rw [s2]
  generalize e : q_up (q_up a (79 + 1) C x) 79 1 (C + 1) = a1
  have f : ∀ r, r ≠ 79 → r ≠ 80 → a1 r = a r := fun r x y => by rw [← e, q_up_ne x, q_up_ne y]
  have ev : zT a1 77 w = a 78 w := by rw [zT_in w0 (by rw [f 77 (by decide) (by decide)]; omega), f (77 + 1) (by decide) (by decide)]
  refine k_Row_at q_row_77 (by rw [f 77 (by decide) (by decide)]; omega) ?_
  rw [ev]
  refine ⟨by omega, k_Row_set q_row_77 (by rw [f 77 (by decide) (by decide)]; omega) (fun _ _ => h _ (fun r x y z => ?_) ?_ ?_ ?_) (fun z => absurd ⟨w0, by rw [f 77 (by decide) (by decide)]; omega⟩ z)⟩
  · rw [q_up_ne x]; exact f r y z
  · rw [q_up_ne (by decide), ← e, q_up_at]
  · rw [q_up_ne (by decide), ← e, q_up_ne (by decide), q_up_fn]
  · rw [show q_up a1 (77 + 1) w (a 78 w + 1) 78 = q_u (a1 78) w (a 78 w + 1) from q_up_fn, f 78 (by decide) (by decide)]
theorem k_Tree_put (T : zTr a b v C D) (v2 : v ≤ 482) (C2 : C < 481) (w0 : 0 ≤ w) (wv : w < v) (h : ∀ a', zPu a a' w C x → KV a') : c_Tree_addContent X w x a (fun s15 => c_Row_at X 77 w s15 (fun r17 s16 => c_Row_set X 71 w r17 s16 KV)) := by
  obtain ⟨t1, t2, t3, t4, t5, t6, t7, t8, t9, t10, t11, t12, t13⟩ := T.sz
  have cw := T.ct w w0 wv
  refine k_Tree_addContent ⟨t7, t8⟩ v2 t12 C2 w0 wv ⟨cw.2.1, by omega⟩ (fun a1 f g79 g80 g78 => ?_)
  have z77 : a1 77 = a 77 := f 77 (by decide) (by decide) (by decide)
  have z71 : a1 71 = a 71 := f 71 (by decide) (by decide) (by decide)
  refine k_Row_at q_row_77 (by rw [z77]; omega) ?_
  rw [zT_in w0 (by rw [z77]; omega), show a1 (77 + 1) = a1 78 from rfl, g78, q_u_at]
  refine k_Row_set q_row_71 (by rw [z71]; omega) (fun _ _ => h _ (zPu.mk (fun r x1 x2 x3 x4 => ?_) ?_ ?_ ?_ ?_)) (fun z => absurd ⟨w0, by rw [z71]; omega⟩ z)
  · rw [q_up_ne x1]; exact f r x2 x3 x4
  · rw [q_up_ne (by decide)]; exact g79
  · rw [q_up_ne (by decide)]; exact g80
  · rw [q_up_ne (by decide)]; exact g78
  · rw [show q_up a1 (71 + 1) w (a 78 w + 1) 72 = q_u (a1 72) w (a 78 w + 1) from q_up_fn, f 72 (by decide) (by decide) (by decide)]
end Walk
