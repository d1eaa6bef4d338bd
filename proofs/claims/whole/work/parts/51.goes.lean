/-! Whether a container goes on. -/
/-- the character at a place ahead of the end, or -1 -/
def zLook (t : Int → Int) (E i : Int) : Int := if i < E then t i else -1
/-- the class reads t: the rest begins at R and ends at E -/
def zCl (s : qM) (t : Int → Int) (R E : Int) : Prop := (s 43 3 = R) ∧ (s 43 4 = E) ∧ (0 ≤ R) ∧ (R ≤ E) ∧ (E ≤ s 1 1) ∧ (s 1 1 ≤ 240) ∧ (s 33 1 = s 1 1) ∧ (∀ i, 0 ≤ i → i < s 1 1 → s 2 i = t i)
theorem zCl.mk {s : qM} {t : Int → Int} {R E : Int} (rest : s 43 3 = R) (stop : s 43 4 = E) (R0 : 0 ≤ R) (RE : R ≤ E) (En : E ≤ s 1 1) (n240 : s 1 1 ≤ 240) (ow : s 33 1 = s 1 1) (tx : ∀ i, 0 ≤ i → i < s 1 1 → s 2 i = t i) : zCl s t R E := ⟨rest, stop, R0, RE, En, n240, ow, tx⟩
theorem zCl.rest {s : qM} {t : Int → Int} {R E : Int} (h : zCl s t R E) : s 43 3 = R := h.1
theorem zCl.stop {s : qM} {t : Int → Int} {R E : Int} (h : zCl s t R E) : s 43 4 = E := h.2.1
theorem zCl.R0 {s : qM} {t : Int → Int} {R E : Int} (h : zCl s t R E) : 0 ≤ R := h.2.2.1
theorem zCl.RE {s : qM} {t : Int → Int} {R E : Int} (h : zCl s t R E) : R ≤ E := h.2.2.2.1
theorem zCl.En {s : qM} {t : Int → Int} {R E : Int} (h : zCl s t R E) : E ≤ s 1 1 := h.2.2.2.2.1
theorem zCl.n240 {s : qM} {t : Int → Int} {R E : Int} (h : zCl s t R E) : s 1 1 ≤ 240 := h.2.2.2.2.2.1
theorem zCl.ow {s : qM} {t : Int → Int} {R E : Int} (h : zCl s t R E) : s 33 1 = s 1 1 := h.2.2.2.2.2.2.1
theorem zCl.tx {s : qM} {t : Int → Int} {R E : Int} (h : zCl s t R E) : ∀ i, 0 ≤ i → i < s 1 1 → s 2 i = t i := h.2.2.2.2.2.2.2
/-- and so does the model -/
def zMl (s : qM) (t : Int → Int) (R E : Int) : Prop := (s 113 49 = R) ∧ (s 113 50 = E) ∧ (0 ≤ R) ∧ (R ≤ E) ∧ (E ≤ s 113 0) ∧ (s 113 0 ≤ 240) ∧ (s 114 = t)
theorem zMl.mk {s : qM} {t : Int → Int} {R E : Int} (rest : s 113 49 = R) (stop : s 113 50 = E) (R0 : 0 ≤ R) (RE : R ≤ E) (En : E ≤ s 113 0) (n240 : s 113 0 ≤ 240) (tx : s 114 = t) : zMl s t R E := ⟨rest, stop, R0, RE, En, n240, tx⟩
theorem zMl.rest {s : qM} {t : Int → Int} {R E : Int} (h : zMl s t R E) : s 113 49 = R := h.1
theorem zMl.stop {s : qM} {t : Int → Int} {R E : Int} (h : zMl s t R E) : s 113 50 = E := h.2.1
theorem zMl.R0 {s : qM} {t : Int → Int} {R E : Int} (h : zMl s t R E) : 0 ≤ R := h.2.2.1
theorem zMl.RE {s : qM} {t : Int → Int} {R E : Int} (h : zMl s t R E) : R ≤ E := h.2.2.2.1
theorem zMl.En {s : qM} {t : Int → Int} {R E : Int} (h : zMl s t R E) : E ≤ s 113 0 := h.2.2.2.2.1
theorem zMl.n240 {s : qM} {t : Int → Int} {R E : Int} (h : zMl s t R E) : s 113 0 ≤ 240 := h.2.2.2.2.2.1
theorem zMl.tx {s : qM} {t : Int → Int} {R E : Int} (h : zMl s t R E) : s 114 = t := h.2.2.2.2.2.2
/-- m characters from R on are taken off for v -/
def zTk (s s' : qM) (R m v : Int) : Prop := (∀ q, q ≠ 34 → q ≠ 43 → s' q = s q) ∧ (∀ j, j ≠ 3 → s' 43 j = s 43 j) ∧ (s' 43 3 = R + m) ∧ (∀ i, R ≤ i → i < R + m → s' 34 i = v) ∧ (∀ i, ¬ (R ≤ i ∧ i < R + m) → s' 34 i = s 34 i)
theorem zTk.mk {s s' : qM} {R m v : Int} (fr : ∀ q, q ≠ 34 → q ≠ 43 → s' q = s q) (f43 : ∀ j, j ≠ 3 → s' 43 j = s 43 j) (rest : s' 43 3 = R + m) (own : ∀ i, R ≤ i → i < R + m → s' 34 i = v) (old : ∀ i, ¬ (R ≤ i ∧ i < R + m) → s' 34 i = s 34 i) : zTk s s' R m v := ⟨fr, f43, rest, own, old⟩
theorem zTk.fr {s s' : qM} {R m v : Int} (h : zTk s s' R m v) : ∀ q, q ≠ 34 → q ≠ 43 → s' q = s q := h.1
theorem zTk.f43 {s s' : qM} {R m v : Int} (h : zTk s s' R m v) : ∀ j, j ≠ 3 → s' 43 j = s 43 j := h.2.1
theorem zTk.rest {s s' : qM} {R m v : Int} (h : zTk s s' R m v) : s' 43 3 = R + m := h.2.2.1
theorem zTk.own {s s' : qM} {R m v : Int} (h : zTk s s' R m v) : ∀ i, R ≤ i → i < R + m → s' 34 i = v := h.2.2.2.1
theorem zTk.old {s s' : qM} {R m v : Int} (h : zTk s s' R m v) : ∀ i, ¬ (R ≤ i ∧ i < R + m) → s' 34 i = s 34 i := h.2.2.2.2
def zTm (s s' : qM) (R m v : Int) : Prop := (∀ q, q ≠ 113 → q ≠ 129 → s' q = s q) ∧ (∀ j, j ≠ 49 → s' 113 j = s 113 j) ∧ (s' 113 49 = R + m) ∧ (∀ i, R ≤ i → i < R + m → s' 129 i = v) ∧ (∀ i, ¬ (R ≤ i ∧ i < R + m) → s' 129 i = s 129 i)
theorem zTm.mk {s s' : qM} {R m v : Int} (fr : ∀ q, q ≠ 113 → q ≠ 129 → s' q = s q) (f113 : ∀ j, j ≠ 49 → s' 113 j = s 113 j) (rest : s' 113 49 = R + m) (own : ∀ i, R ≤ i → i < R + m → s' 129 i = v) (old : ∀ i, ¬ (R ≤ i ∧ i < R + m) → s' 129 i = s 129 i) : zTm s s' R m v := ⟨fr, f113, rest, own, old⟩
theorem zTm.fr {s s' : qM} {R m v : Int} (h : zTm s s' R m v) : ∀ q, q ≠ 113 → q ≠ 129 → s' q = s q := h.1
theorem zTm.f113 {s s' : qM} {R m v : Int} (h : zTm s s' R m v) : ∀ j, j ≠ 49 → s' 113 j = s 113 j := h.2.1
theorem zTm.rest {s s' : qM} {R m v : Int} (h : zTm s s' R m v) : s' 113 49 = R + m := h.2.2.1
theorem zTm.own {s s' : qM} {R m v : Int} (h : zTm s s' R m v) : ∀ i, R ≤ i → i < R + m → s' 129 i = v := h.2.2.2.1
theorem zTm.old {s s' : qM} {R m v : Int} (h : zTm s s' R m v) : ∀ i, ¬ (R ≤ i ∧ i < R + m) → s' 129 i = s 129 i := h.2.2.2.2
/-- how many characters a container takes off, as it goes on; -1: it doesn't -/
def zGo (t : Int → Int) (κ w R E : Int) : Int :=
  if κ = 1 then (if zLook t E R = 62 then (if zLook t E (R + 1) = 32 then 2 else 1) else -1)
  else if κ = 3 then (if zSkip t R E = E then E - R else if R + w ≤ zSkip t R E then w else -1)
  else 0
theorem zSkip_is {t : Int → Int} {a b : Int} (h : a ≤ b) : a ≤ zSkip t a b ∧ zSkip t a b ≤ b ∧ (∀ i, a ≤ i → i < zSkip t a b → t i = 32) ∧ (zSkip t a b = b ∨ t (zSkip t a b) ≠ 32) := by
  obtain ⟨h1, h2, h3, h4⟩ := zU_is (p := zIsB t) h
  exact ⟨h1, h2, fun i a b => of_decide_eq_true (h3 i a b), h4.imp id (fun e => of_decide_eq_false e)⟩
theorem zSkip_eq {t : Int → Int} {a b r : Int} (h1 : a ≤ r) (h2 : r ≤ b) (h3 : ∀ i, a ≤ i → i < r → t i = 32) (h4 : r = b ∨ t r ≠ 32) : zSkip t a b = r :=
  zU_eq h1 h2 (fun i a b => decide_eq_true (h3 i a b)) (h4.imp id (fun e => decide_eq_false e))
theorem zSkip_congr {t u : Int → Int} {a b : Int} (h : a ≤ b) (e : ∀ i, a ≤ i → i < b → t i = u i) : zSkip t a b = zSkip u a b :=
  zU_congr h (fun i a b => by unfold zIsB; rw [e i a b])
theorem zSkip_cut {t : Int → Int} {a m b : Int} (h1 : a ≤ m) (h2 : m ≤ b) : zSkip t a m = m ↔ m ≤ zSkip t a b := by
  obtain ⟨g1, g2, g3, g4⟩ := zSkip_is (t := t) (show a ≤ b by omega)
  constructor
  · intro h
    obtain ⟨k1, k2, k3, k4⟩ := zSkip_is (t := t) h1
    rw [h] at k3
    by_cases x : m ≤ zSkip t a b
    · exact x
    · rcases g4 with g4 | g4
      · omega
      · exact absurd (k3 _ g1 (by omega)) g4
  · intro h
    exact zSkip_eq h1 (Int.le_refl m) (fun i a b => g3 i a (by omega)) (Or.inl rfl)
section Goes
variable {X : Nat × (Nat → Int32)} {s s' : qM} {K : Int → qM → Prop} {KV : qM → Prop} {t : Int → Int} {R E : Int}
theorem zCl.zt (H : zCl s t R E) {i : Int} (h0 : 0 ≤ i) (h1 : i < s 1 1) : zT s 1 i = t i := (zT_in h0 h1).trans (H.tx i h0 h1)
theorem zCl.skip (H : zCl s t R E) {a : Int} (h0 : 0 ≤ a) (h1 : a ≤ E) : zSkip (zT s 1) a E = zSkip t a E :=
  zSkip_congr h1 (fun i x y => H.zt (by omega) (by have := H.En; omega))
theorem k_Blocks_kindOf {k : Int} (h1 : s 13 1 ≤ 482) (h : K (zT s 13 k) s) : c_Blocks_kindOf X k s K := sg_Blocks_kindOf (k_Row_at q_row_13 h1 h)
theorem k_Blocks_openIn {k : Int} (h1 : s 17 1 ≤ 482) (h : K (zT s 17 k) s) : c_Blocks_openIn X k s K := sg_Blocks_openIn (k_Row_at q_row_17 h1 h)
theorem k_Blocks_markerOf {k : Int} (h1 : s 23 1 ≤ 482) (h : K (zT s 23 k) s) : c_Blocks_markerOf X k s K := sg_Blocks_markerOf (k_Row_at q_row_23 h1 h)
theorem k_Rd_look {j : Int} (H : zCl s t R E) (h0 : 0 ≤ R + j) (h1 : R + j ≤ 100000) (h : K (zLook t E (R + j)) s) : c_Rd_look X j s K := by
  have hE := H.En
  have hn := H.n240
  refine sg_Rd_look ?_
  rw [H.rest, H.stop]
  refine ⟨by omega, z_c (fun e => ?_) (fun e => ⟨by omega, k_Row_at q_row_1 hn ?_⟩)⟩
  · unfold zLook at h
    rw [if_neg (by omega)] at h
    exact h
  · unfold zLook at h
    rw [if_pos (by omega)] at h
    rw [H.zt h0 (by omega)]
    exact h
theorem k_Rd_takeOff {m v : Int} (hR : s 43 3 = R) (R0 : 0 ≤ R) (m0 : 0 ≤ m) (hm : R + m ≤ s 33 1) (h240 : s 33 1 ≤ 240) (h : ∀ s', zTk s s' R m v → KV s') : c_Rd_takeOff X m v s KV := by
  refine sg_Rd_takeOff ?_
  have L : ∀ (n : Nat) (k : Int) (s1 : qM), k + n = m → 0 ≤ k → zTk s s1 R k v → L_Rd_takeOff_2 X m v k s1 KV := by
    intro n
    induction n with
    | zero =>
      intro k s1 hk k0 T
      have e : k = m := by omega
      rw [e] at T ⊢
      exact sg_Rd_takeOff_2 (z_t (Int.le_refl m) (h s1 T))
    | succ n ih =>
      intro k s1 hk k0 T
      have e33 : s1 33 1 = s 33 1 := by rw [T.fr 33 (by decide) (by decide)]
      refine sg_Rd_takeOff_2 (z_f (by omega) (sg_Blocks_own (k_Row_set q_row_33 (by omega) (fun a b => ?_) (fun z => ?_))))
      · rw [T.rest]
        have e2 : q_up s1 (33 + 1) (R + k) v 43 = s1 43 := q_up_ne (by decide)
        rw [e2, T.rest]
        refine ⟨by omega, fun s2 e3 => ⟨by omega, ?_⟩⟩
        refine ih (k + 1) s2 (by omega) (by omega) (zTk.mk (fun q x y => ?_) (fun j hj => ?_) ?_ (fun i x y => ?_) (fun i x => ?_))
        · rw [e3, q_up_ne y, q_up_ne x]; exact T.fr q x y
        · rw [e3, q_up_nj hj, e2]; exact T.f43 j hj
        · rw [e3, q_up_at]; omega
        · rw [e3, q_up_ne (by decide)]
          by_cases z : i = R + k
          · rw [z, q_up_at]
          · rw [q_up_nj z]; exact T.own i x (by omega)
        · rw [e3, q_up_ne (by decide), q_up_nj (by omega)]; exact T.old i (by omega)
      · exact absurd ⟨by rw [T.rest]; omega, by rw [T.rest]; omega⟩ z
  exact L m.toNat 0 s (by omega) (by omega) (zTk.mk (fun _ _ _ => rfl) (fun _ _ => rfl) (by omega) (fun i a b => by omega) (fun _ _ => rfl))
theorem k_Rd_goesOn {k κ w n : Int} (H : zCl s t R E) (hn : n ≤ 482) (h13 : s 13 1 = n) (h21 : s 21 1 = n) (k0 : 0 ≤ k) (kn : k < n) (hκ : s 14 k = κ) (κ0 : 0 ≤ κ) (κ3 : κ ≤ 3) (hw : κ = 3 → s 22 k = w ∧ 2 ≤ w ∧ w ≤ 3)
    (h0 : zGo t κ w R E = -1 → K 0 s) (h1 : zGo t κ w R E ≠ -1 → ∀ s', zTk s s' R (zGo t κ w R E) k → K 1 s') : c_Rd_goesOn X k s K := by
  have hE := H.En
  have hN := H.n240
  have hR := H.R0
  have hRE := H.RE
  have z14 : zT s 13 k = κ := (zT_in k0 (by omega)).trans hκ
  obtain ⟨g1, g2, g3, g4⟩ := zSkip_is (t := t) hRE
  have tk : ∀ m F, 0 ≤ m → R + m ≤ E → (∀ s', zTk s s' R m k → F s') → c_Rd_takeOff X m k s F := fun m F m0 mE hF => k_Rd_takeOff H.rest hR m0 (by rw [H.ow]; omega) (by rw [H.ow]; exact hN) hF
  refine sg_Rd_goesOn (k_Blocks_kindOf (by omega) ?_)
  rw [z14]
  refine z_c (fun ne1 => z_c (fun ne3 => ?_) (fun e3 => ?_)) (fun e1 => ?_)
  · have ez : zGo t κ w R E = 0 := by unfold zGo; rw [if_neg ne1, if_neg ne3]
    rw [ez] at h1
    exact h1 (by decide) s (zTk.mk (fun _ _ _ => rfl) (fun _ _ => rfl) (by rw [H.rest]; omega) (fun i a b => by omega) (fun _ _ => rfl))
  · have e3 : κ = 3 := Decidable.not_not.mp e3
    obtain ⟨hw1, hw2, hw3⟩ := hw e3
    have ez : zGo t κ w R E = if zSkip t R E = E then E - R else if R + w ≤ zSkip t R E then w else -1 := by unfold zGo; rw [if_neg ne1, if_pos e3]
    refine k_T_skipBlanks q_row_1 hN (by rw [H.rest]; omega) (by rw [H.stop]; omega) ?_
    rw [H.rest, H.stop, H.skip hR hRE]
    refine ⟨by omega, sg_Blocks_measureOf (k_Row_at q_row_13 (by omega) ?_)⟩
    rw [z14]
    refine z_t (by omega) (k_Row_at q_row_21 (by omega) ?_)
    rw [zT_in k0 (by omega), hw1, H.rest, H.stop]
    refine ⟨by omega, z_c (fun e => ?_) (fun e => ?_)⟩
    · have e' : zSkip t R E ≠ E := by omega
      rw [if_neg e'] at ez
      refine sg_Rd_goesOn_103 (z_f (by decide) (z_c (fun le => z_t rfl ?_) (fun le => ?_)))
      · rw [if_pos (by omega)] at ez
        rw [ez] at h1
        exact tk w _ (by omega) (by omega) (h1 (by omega))
      · rw [if_neg (by omega)] at ez
        exact h0 ez
    · have e' : zSkip t R E = E := by omega
      rw [if_pos e'] at ez
      rw [e']
      refine sg_Rd_goesOn_103 (z_t (by decide) (z_f (by decide) ?_))
      rw [ez] at h1
      exact tk _ _ (by omega) (by omega) (h1 (by omega))
  · have e1 : κ = 1 := Decidable.not_not.mp e1
    have ez : zGo t κ w R E = if zLook t E R = 62 then (if zLook t E (R + 1) = 32 then 2 else 1) else -1 := by unfold zGo; rw [if_pos e1]
    refine k_Rd_look H (by omega) (by omega) ?_
    rw [show R + 0 = R by omega]
    refine z_c (fun e => ?_) (fun e => ?_)
    · rw [if_pos e] at ez
      have hlt : R < E := by
        by_cases x : R < E
        · exact x
        · unfold zLook at e; rw [if_neg x] at e; omega
      refine k_Rd_look H (by omega) (by omega) (z_c (fun e2 => ?_) (fun e2 => ?_))
      · rw [if_neg e2] at ez
        rw [ez] at h1
        exact tk 1 _ (by omega) (by omega) (h1 (by decide))
      · have e2 := Decidable.not_not.mp e2
        rw [if_pos e2] at ez
        rw [ez] at h1
        have hlt2 : R + 1 < E := by
          by_cases x : R + 1 < E
          · exact x
          · unfold zLook at e2; rw [if_neg x] at e2; omega
        exact tk 2 _ (by omega) (by omega) (h1 (by decide))
    · rw [if_neg e] at ez
      exact h0 ez
theorem k_m_goesOn {k κ w : Int} (H : zMl s t R E) (k0 : 0 ≤ k) (kn : k < 600) (hκ : s 117 k = κ) (hw : κ = 3 → s 120 k = w ∧ 2 ≤ w ∧ w ≤ 3)
    (h0 : zGo t κ w R E = -1 → K 0 s) (h1 : zGo t κ w R E ≠ -1 → ∀ s', zTm s s' R (zGo t κ w R E) k → K 1 s') : c_m_goesOn X k s K := by
  have hE := H.En
  have hN := H.n240
  have hR := H.R0
  have hRE := H.RE
  obtain ⟨g1, g2, g3, g4⟩ := zSkip_is (t := t) hRE
  have tk : ∀ (m : Int) (s1 : qM) (F : qM → Prop), 0 ≤ m → R + m ≤ E → (∀ q, q ≠ 113 → s1 q = s q) → (∀ j, j ≠ 49 → s1 113 j = s 113 j) → s1 113 49 = R + m → (∀ s', zTm s s' R m k → F s') → c_m_owns X R (s1 113 49) k s1 F := by
    intro m s1 F m0 mE f1 f2 f3 hF
    refine k_m_owns hR (by omega) (fun s' x1 x2 x3 => hF s' (zTm.mk (fun q a b => by rw [x1 q b]; exact f1 q a) (fun j hj => by rw [x1 113 (by decide)]; exact f2 j hj) (by rw [x1 113 (by decide)]; exact f3) (fun i a b => x2 i a (by rw [f3]; exact b)) (fun i a => by rw [x3 i (by rw [f3]; exact a), f1 129 (by decide)])))
  refine sg_m_goesOn ⟨k0, kn, ?_⟩
  rw [hκ]
  refine z_c (fun ne1 => ⟨k0, kn, z_c (fun ne3 => ?_) (fun e3 => ?_)⟩) (fun e1 => ?_)
  · have ez : zGo t κ w R E = 0 := by unfold zGo; rw [if_neg ne1, if_neg ne3]
    rw [ez] at h1
    have := tk 0 s (K 1) (by omega) (by omega) (fun _ _ => rfl) (fun _ _ => rfl) (by rw [H.rest]; omega) (h1 (by decide))
    rw [H.rest] at this ⊢
    exact this
  · have e3 : κ = 3 := Decidable.not_not.mp e3
    obtain ⟨hw1, hw2, hw3⟩ := hw e3
    have ez : zGo t κ w R E = if zSkip t R E = E then E - R else if R + w ≤ zSkip t R E then w else -1 := by unfold zGo; rw [if_neg ne1, if_pos e3]
    refine ⟨k0, kn, ?_⟩
    rw [H.rest, H.stop, hw1]
    refine k_m_isBlank hR hRE (by omega) (fun e => ?_) (fun e => ?_)
    · rw [H.tx] at e
      rw [if_pos e] at ez
      rw [ez] at h1
      refine z_f (by decide) (fun s8 e8 => ?_)
      exact tk (E - R) s8 _ (by omega) (by omega) (fun q hq => by rw [e8]; exact q_up_ne hq) (fun j hj => by rw [e8]; exact q_up_nj hj) (by rw [e8, q_up_at, H.stop]; omega) (h1 (by omega))
    · rw [H.tx] at e
      rw [if_neg e] at ez
      refine z_t rfl ?_
      rw [H.rest, H.stop]
      refine ⟨by omega, z_c (fun lt => h0 (by rw [ez, if_neg (by omega)])) (fun lt => ⟨by omega, k_m_isBlank hR (by omega) (by omega) (fun e2 => ?_) (fun e2 => ?_)⟩)⟩
      · rw [H.tx] at e2
        have e2 := (zSkip_cut (b := E) (by omega) (by omega)).mp e2
        rw [if_pos e2] at ez
        rw [ez] at h1
        refine z_f (by decide) ?_
        rw [H.rest]
        refine ⟨by omega, fun s6 e6 => ?_⟩
        exact tk w s6 _ (by omega) (by omega) (fun q hq => by rw [e6]; exact q_up_ne hq) (fun j hj => by rw [e6]; exact q_up_nj hj) (by rw [e6, q_up_at]) (h1 (by omega))
      · rw [H.tx] at e2
        refine z_t rfl (h0 ?_)
        rw [ez, if_neg (fun x => e2 ((zSkip_cut (b := E) (by omega) (by omega)).mpr x))]
  · have e1 : κ = 1 := Decidable.not_not.mp e1
    have ez : zGo t κ w R E = if zLook t E R = 62 then (if zLook t E (R + 1) = 32 then 2 else 1) else -1 := by unfold zGo; rw [if_pos e1]
    rw [H.rest, H.stop]
    refine z_c (fun e => h0 ?_) (fun e => ⟨hR, by omega, ?_⟩)
    · rw [ez]; unfold zLook; rw [if_neg (show ¬ R < E by omega)]; rfl
    · have l0 : zLook t E R = t R := by unfold zLook; rw [if_pos (by omega)]
      rw [H.tx]
      rw [l0] at ez
      refine z_c (fun e2 => ⟨by omega, ?_⟩) (fun e2 => h0 (by rw [ez, if_neg e2]))
      rw [if_pos e2] at ez
      have one : zLook t E (R + 1) ≠ 32 → (-2147483648 ≤ (R + 1) ∧ (R + 1) < 2147483648) ∧ ∀ s10 : qM, s10 = q_up s 113 49 (R + 1) → c_m_owns X R (s10 113 49) k s10 (fun s11 => K 1 s11) := by
        intro x
        rw [if_neg x] at ez
        rw [ez] at h1
        exact ⟨by omega, fun s10 e10 => tk 1 s10 _ (by omega) (by omega) (fun q hq => by rw [e10]; exact q_up_ne hq) (fun j hj => by rw [e10]; exact q_up_nj hj) (by rw [e10, q_up_at]) (h1 (by decide))⟩
      refine z_c (fun e3 => one ?_) (fun e3 => ⟨by omega, by omega, by omega, z_c (fun e4 => one ?_) (fun e4 => ⟨by omega, fun s14 e14 => ?_⟩)⟩)
      · unfold zLook; rw [if_neg (by omega)]; decide
      · unfold zLook; rw [if_pos (by omega)]; exact e4
      · have e4 := Decidable.not_not.mp e4
        have l1 : zLook t E (R + 1) = 32 := by unfold zLook; rw [if_pos (by omega)]; exact e4
        rw [if_pos l1] at ez
        rw [ez] at h1
        exact tk 2 s14 _ (by omega) (by omega) (fun q hq => by rw [e14]; exact q_up_ne hq) (fun j hj => by rw [e14]; exact q_up_nj hj) (by rw [e14, q_up_at]) (h1 (by decide))
end Goes
