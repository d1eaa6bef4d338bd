/-! A pair is made, in the class and in the model. -/
section PairUp
variable {X : Nat × (Nat → Int32)} {a b s : qM} {K : Int → qM → Prop} {KV : qM → Prop} {R first c m : Int}
def zPa (a a' : qM) (o c w x y : Int) : Prop := (∀ q, q ≠ 48 → q ≠ 55 → q ≠ 57 → a' q = a q) ∧ (a' 48 x = if w = 2 then 10 else 9) ∧ (a' 48 y = -4) ∧ (w = 2 → a' 48 (x + 1) = -3) ∧ (w = 2 → a' 48 (y + 1) = -3) ∧ (∀ i, ¬ (x ≤ i ∧ i < x + w) → ¬ (y ≤ i ∧ i < y + w) → a' 48 i = a 48 i) ∧ (a' 55 = q_u (a 55) c (y + w)) ∧ (a' 57 o = x) ∧ (∀ r, o < r → r < c → a' 57 r = a 55 r) ∧ (∀ r, ¬ (o ≤ r ∧ r < c) → a' 57 r = a 57 r)
theorem zPa.mk {a a' : qM} {o c w x y : Int} (fr : ∀ q, q ≠ 48 → q ≠ 55 → q ≠ 57 → a' q = a q) (fx : a' 48 x = if w = 2 then 10 else 9) (fy : a' 48 y = -4) (fx2 : w = 2 → a' 48 (x + 1) = -3) (fy2 : w = 2 → a' 48 (y + 1) = -3) (fo : ∀ i, ¬ (x ≤ i ∧ i < x + w) → ¬ (y ≤ i ∧ i < y + w) → a' 48 i = a 48 i) (f55 : a' 55 = q_u (a 55) c (y + w)) (o57 : a' 57 o = x) (b57 : ∀ r, o < r → r < c → a' 57 r = a 55 r) (e57 : ∀ r, ¬ (o ≤ r ∧ r < c) → a' 57 r = a 57 r) : zPa a a' o c w x y := ⟨fr, fx, fy, fx2, fy2, fo, f55, o57, b57, e57⟩
theorem zPa.fr {a a' : qM} {o c w x y : Int} (h : zPa a a' o c w x y) : ∀ q, q ≠ 48 → q ≠ 55 → q ≠ 57 → a' q = a q := h.1
theorem zPa.fx {a a' : qM} {o c w x y : Int} (h : zPa a a' o c w x y) : a' 48 x = if w = 2 then 10 else 9 := h.2.1
theorem zPa.fy {a a' : qM} {o c w x y : Int} (h : zPa a a' o c w x y) : a' 48 y = -4 := h.2.2.1
theorem zPa.fx2 {a a' : qM} {o c w x y : Int} (h : zPa a a' o c w x y) : w = 2 → a' 48 (x + 1) = -3 := h.2.2.2.1
theorem zPa.fy2 {a a' : qM} {o c w x y : Int} (h : zPa a a' o c w x y) : w = 2 → a' 48 (y + 1) = -3 := h.2.2.2.2.1
theorem zPa.fo {a a' : qM} {o c w x y : Int} (h : zPa a a' o c w x y) : ∀ i, ¬ (x ≤ i ∧ i < x + w) → ¬ (y ≤ i ∧ i < y + w) → a' 48 i = a 48 i := h.2.2.2.2.2.1
theorem zPa.f55 {a a' : qM} {o c w x y : Int} (h : zPa a a' o c w x y) : a' 55 = q_u (a 55) c (y + w) := h.2.2.2.2.2.2.1
theorem zPa.o57 {a a' : qM} {o c w x y : Int} (h : zPa a a' o c w x y) : a' 57 o = x := h.2.2.2.2.2.2.2.1
theorem zPa.b57 {a a' : qM} {o c w x y : Int} (h : zPa a a' o c w x y) : ∀ r, o < r → r < c → a' 57 r = a 55 r := h.2.2.2.2.2.2.2.2.1
theorem zPa.e57 {a a' : qM} {o c w x y : Int} (h : zPa a a' o c w x y) : ∀ r, ¬ (o ≤ r ∧ r < c) → a' 57 r = a 57 r := h.2.2.2.2.2.2.2.2.2
theorem k_Runs_pair {o w x y : Int} (h54 : a 54 1 = R) (h56 : a 56 1 = R) (h47 : a 47 1 = m) (hR : R ≤ 240) (hm : m ≤ 240) (o0 : 0 ≤ o) (oc : o < c) (cR : c < R) (hw : w = if 2 ≤ a 57 o - a 55 o ∧ 2 ≤ a 57 c - a 55 c then 2 else 1) (hx : x = a 57 o - w) (hy : y = a 55 c) (x0 : 0 ≤ x) (xy : x + w ≤ y) (ym : y + w ≤ m) (bc : a 57 c - a 55 c ≤ 240) (bc0 : 0 ≤ a 57 c - a 55 c) (bo : a 57 o - a 55 o ≤ 240) (bo0 : 0 ≤ a 57 o - a 55 o) (h : ∀ a', zPa a a' o c w x y → KV a') : c_Runs_pair X o c 47 a KV := by
  have w12 : w = 1 ∨ w = 2 := by rw [hw]; split <;> omega
  -- the loop over the runs between
  have L129 : ∀ (s : qM) (d : Nat) (r : Int) (s1 : qM), c - r = d → o < r → (∀ q, q ≠ 57 → s1 q = s q) → (s 54 1 = R ∧ s 56 1 = R) → (∀ i, o < i → i < r → s1 57 i = s 55 i) → (∀ i, ¬ (o < i ∧ i < r) → s1 57 i = s 57 i) → (∀ s', (∀ q, q ≠ 57 → s' q = s q) → (∀ i, o < i → i < c → s' 57 i = s 55 i) → (∀ i, ¬ (o < i ∧ i < c) → s' 57 i = s 57 i) → KV s') → L_Runs_pair_129 X 47 c r s1 KV := by
    intro s d
    induction d with
    | zero =>
      intro r s1 hr hor f1 fs f2 f3 hK
      have e : r = c := by omega
      rw [e] at f2 f3 ⊢
      exact sg_Runs_pair_129 q_row_47 (z_t (Int.le_refl c) (hK s1 f1 f2 f3))
    | succ d ih =>
      intro r s1 hr hor f1 fs f2 f3 hK
      refine sg_Runs_pair_129 q_row_47 (z_f (by omega) (k_Row_at q_row_54 (by rw [f1 54 (by decide)]; omega) (k_Row_set q_row_56 (by rw [f1 56 (by decide)]; omega) (fun _ _ => ⟨by omega, ?_⟩) (fun z => absurd ⟨by omega, by rw [f1 56 (by decide)]; omega⟩ z))))
      rw [zT_in (by omega) (by rw [f1 54 (by decide)]; omega), f1 (54 + 1) (by decide)]
      refine ih (r + 1) _ (by omega) (by omega) (fun q hq => by rw [q_up_ne hq]; exact f1 q hq) fs (fun i u v => ?_) (fun i u => ?_) hK
      · by_cases z : i = r
        · rw [z, q_up_at]
        · rw [q_up_nj z]; exact f2 i u (by omega)
      · rw [q_up_nj (by omega)]; exact f3 i (by omega)
  have L74 : ∀ (s1 : qM), (∀ q, q ≠ 48 → s1 q = a q) → (w = 2 → s1 48 (x + 1) = -3 ∧ s1 48 (y + 1) = -3) → (∀ i, ¬ (x < i ∧ i < x + w) → ¬ (y < i ∧ i < y + w) → s1 48 i = a 48 i) → L_Runs_pair_74 X 47 o c w x y s1 KV := by
    intro s1 f1 f2 f3
    have go : ∀ κ, κ = (if w = 2 then 10 else 9) → c_Row_set X 47 x κ s1 (fun s1 => c_Row_set X 47 y (-4) s1 (fun s2 => c_Row_set X 56 o x s2 (fun s3 => (-2147483648 ≤ (y + w) ∧ (y + w) < 2147483648) ∧ c_Row_set X 54 c (y + w) s3 (fun s4 => (-2147483648 ≤ (o + 1) ∧ (o + 1) < 2147483648) ∧ L_Runs_pair_129 X 47 c (o + 1) s4 KV)))) := by
      intro κ hκ
      refine k_Row_set q_row_47 (by rw [f1 47 (by decide)]; omega) (fun _ _ => ?_) (fun z => absurd ⟨x0, by rw [f1 47 (by decide)]; omega⟩ z)
      refine k_Row_set q_row_47 (by rw [q_up_ne (by decide), f1 47 (by decide)]; omega) (fun _ _ => ?_) (fun z => absurd ⟨by omega, by rw [q_up_ne (by decide), f1 47 (by decide)]; omega⟩ z)
      refine k_Row_set q_row_56 (by rw [q_up_ne (by decide), q_up_ne (by decide), f1 56 (by decide)]; omega) (fun _ _ => ⟨by omega, ?_⟩) (fun z => absurd ⟨o0, by rw [q_up_ne (by decide), q_up_ne (by decide), f1 56 (by decide)]; omega⟩ z)
      refine k_Row_set q_row_54 (by rw [q_up_ne (by decide), q_up_ne (by decide), q_up_ne (by decide), f1 54 (by decide)]; omega) (fun _ _ => ⟨by omega, ?_⟩) (fun z => absurd ⟨by omega, by rw [q_up_ne (by decide), q_up_ne (by decide), q_up_ne (by decide), f1 54 (by decide)]; omega⟩ z)
      generalize e4 : q_up (q_up (q_up (q_up s1 (47 + 1) x κ) (47 + 1) y (-4)) (56 + 1) o x) (54 + 1) c (y + w) = s4
      have g1 : ∀ q, q ≠ 48 → q ≠ 55 → q ≠ 57 → s4 q = a q := fun q u v z => by rw [← e4, q_up_ne v, q_up_ne z, q_up_ne u, q_up_ne u]; exact f1 q u
      have g55 : s4 55 = q_u (a 55) c (y + w) := by rw [← e4, q_up_fn, q_up_ne (by decide), q_up_ne (by decide), q_up_ne (by decide), f1 (54 + 1) (by decide)]
      have g57 : s4 57 = q_u (a 57) o x := by rw [← e4, q_up_ne (by decide), q_up_fn, q_up_ne (by decide), q_up_ne (by decide), f1 (56 + 1) (by decide)]
      have g48 : s4 48 = q_u (q_u (s1 48) x κ) y (-4) := by rw [← e4, q_up_ne (by decide), q_up_ne (by decide), q_up_fn, q_up_fn]
      refine L129 s4 (c - (o + 1)).toNat (o + 1) s4 (by omega) (by omega) (fun _ _ => rfl) ⟨by rw [g1 54 (by decide) (by decide) (by decide)]; exact h54, by rw [g1 56 (by decide) (by decide) (by decide)]; exact h56⟩ (fun i u v => by omega) (fun i u => rfl) (fun s' k1 k2 k3 => h s' ?_)
      have e48 : s' 48 = q_u (q_u (s1 48) x κ) y (-4) := by rw [k1 48 (by decide)]; exact g48
      refine zPa.mk (fun q u v z => by rw [k1 q z]; exact g1 q u v z) ?_ ?_ (fun z => ?_) (fun z => ?_) (fun i u v => ?_) (by rw [k1 55 (by decide)]; exact g55) ?_ (fun r u v => ?_) (fun r u => ?_)
      · rw [e48, q_u_ne (by omega), q_u_at]; exact hκ
      · rw [e48, q_u_at]
      · rw [e48, q_u_ne (by omega), q_u_ne (by omega)]; exact (f2 z).1
      · rw [e48, q_u_ne (by omega), q_u_ne (by omega)]; exact (f2 z).2
      · rw [e48, q_u_ne (by omega), q_u_ne (by omega)]; exact f3 i (by omega) (by omega)
      · rw [k3 o (by omega), g57, q_u_at]
      · rw [k2 r u v, g55, q_u_ne (by omega)]
      · rw [k3 r (by omega), g57, q_u_ne (by omega)]
    refine sg_Runs_pair_74 q_row_47 (z_c (fun e => go 9 (by rw [if_neg e])) (fun e => go 10 (by rw [if_pos (Decidable.not_not.mp e)])))
  have L22 : w = 1 → L_Runs_pair_22 X 47 o c a KV := by
    intro w1
    refine sg_Runs_pair_22 q_row_47 (k_Row_at q_row_56 (by omega) ?_)
    rw [zT_in o0 (by omega), show a (56 + 1) o = a 57 o from rfl]
    refine ⟨by omega, k_Row_at q_row_54 (by omega) ?_⟩
    rw [zT_in (by omega) (by omega), show a (54 + 1) c = a 55 c from rfl]
    have := L74 a (fun _ _ => rfl) (fun z => by omega) (fun _ _ _ => rfl)
    rw [w1, hx, hy, w1] at this
    exact this
  refine sg_Runs_pair q_row_47 (k_Runs_left h54 h56 hR o0 (by omega) (by omega) (by omega) (z_c (fun e => L22 (by rw [hw, if_neg (by omega)])) (fun e => k_Runs_left h54 h56 hR (by omega) cR (by omega) (by omega) (z_c (fun e2 => L22 (by rw [hw, if_neg (by omega)])) (fun e2 => ?_)))))
  have w2 : w = 2 := by rw [hw, if_pos ⟨by omega, by omega⟩]
  refine k_Row_at q_row_56 (by omega) ?_
  rw [zT_in o0 (by omega), show a (56 + 1) o = a 57 o from rfl]
  refine ⟨by omega, k_Row_at q_row_54 (by omega) ?_⟩
  rw [zT_in (by omega) (by omega), show a (54 + 1) c = a 55 c from rfl, show a 57 o - 2 = x by omega, ← hy]
  refine ⟨by omega, k_Row_set q_row_47 (by omega) (fun _ _ => ⟨by omega, ?_⟩) (fun z => absurd ⟨by omega, by omega⟩ z)⟩
  refine k_Row_set q_row_47 (by rw [q_up_ne (by decide)]; omega) (fun _ _ => ?_) (fun z => absurd ⟨by omega, by rw [q_up_ne (by decide)]; omega⟩ z)
  have := L74 (q_up (q_up a (47 + 1) (x + 1) (-3)) (47 + 1) (y + 1) (-3)) (fun q u => by rw [q_up_ne u, q_up_ne u]) (fun _ => ⟨by rw [q_up_nj (by omega), q_up_at], by rw [q_up_at]⟩) (fun i u v => by rw [q_up_nj (by omega), q_up_nj (by omega)])
  rw [w2] at this
  exact this
end PairUp
