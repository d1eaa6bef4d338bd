/-! Reading a leaf, in both at once. -/
/-- what has been read: m characters, p pieces, q pairs -/
def zDone (a b : qM) (n m : Int) (S : Int → Int) (p : Int) (q : Nat) : Prop := (zWr a b m) ∧ (zPc (a 48) b S p q) ∧ (b 113 41 = q ∧ b 113 33 = p ∧ a 47 1 = m ∧ a 49 1 = m ∧ S p = m) ∧ (∀ i, 0 ≤ i → i < m → a 48 i = 12 ∨ a 50 i = -1) ∧ (∀ k, 0 ≤ k → k < p → b 141 k = 4 → zLk a b (a 50 (S k)) (b 143 k)) ∧ (∀ j : Nat, (j : Int) ≤ p → 0 ≤ zDp b j) ∧ (a 54 1 = 0 ∧ a 56 1 = 0 ∧ a 58 1 = 0 ∧ a 60 1 = 0 ∧ a 62 1 = 0)
theorem zDone.mk {a b : qM} {n m : Int} {S : Int → Int} {p : Int} {q : Nat} (W : zWr a b m) (Z : zPc (a 48) b S p q) (nn : b 113 41 = q ∧ b 113 33 = p ∧ a 47 1 = m ∧ a 49 1 = m ∧ S p = m) (sg : ∀ i, 0 ≤ i → i < m → a 48 i = 12 ∨ a 50 i = -1) (lk : ∀ k, 0 ≤ k → k < p → b 141 k = 4 → zLk a b (a 50 (S k)) (b 143 k)) (dp : ∀ j : Nat, (j : Int) ≤ p → 0 ≤ zDp b j) (rz : a 54 1 = 0 ∧ a 56 1 = 0 ∧ a 58 1 = 0 ∧ a 60 1 = 0 ∧ a 62 1 = 0) : zDone a b n m S p q := ⟨W, Z, nn, sg, lk, dp, rz⟩
theorem zDone.W {a b : qM} {n m : Int} {S : Int → Int} {p : Int} {q : Nat} (h : zDone a b n m S p q) : zWr a b m := h.1
theorem zDone.Z {a b : qM} {n m : Int} {S : Int → Int} {p : Int} {q : Nat} (h : zDone a b n m S p q) : zPc (a 48) b S p q := h.2.1
theorem zDone.nn {a b : qM} {n m : Int} {S : Int → Int} {p : Int} {q : Nat} (h : zDone a b n m S p q) : b 113 41 = q ∧ b 113 33 = p ∧ a 47 1 = m ∧ a 49 1 = m ∧ S p = m := h.2.2.1
theorem zDone.sg {a b : qM} {n m : Int} {S : Int → Int} {p : Int} {q : Nat} (h : zDone a b n m S p q) : ∀ i, 0 ≤ i → i < m → a 48 i = 12 ∨ a 50 i = -1 := h.2.2.2.1
theorem zDone.lk {a b : qM} {n m : Int} {S : Int → Int} {p : Int} {q : Nat} (h : zDone a b n m S p q) : ∀ k, 0 ≤ k → k < p → b 141 k = 4 → zLk a b (a 50 (S k)) (b 143 k) := h.2.2.2.2.1
theorem zDone.dp {a b : qM} {n m : Int} {S : Int → Int} {p : Int} {q : Nat} (h : zDone a b n m S p q) : ∀ j : Nat, (j : Int) ≤ p → 0 ≤ zDp b j := h.2.2.2.2.2.1
theorem zDone.rz {a b : qM} {n m : Int} {S : Int → Int} {p : Int} {q : Nat} (h : zDone a b n m S p q) : a 54 1 = 0 ∧ a 56 1 = 0 ∧ a 58 1 = 0 ∧ a 60 1 = 0 ∧ a 62 1 = 0 := h.2.2.2.2.2.2
section ScanAll
variable {X : Nat × (Nat → Int32)} {a a' b b' s : qM} {K : qM → Prop} {KI : Int → qM → Prop} {n m p R P : Int} {q : Nat} {S rho : Int → Int}
/-- the last [ leads nowhere -/
theorem zSc.unopen (H : zSc a b n m S p q R rho P) {o : Int} (o0 : 0 ≤ o) (op : o < p) (to : b 141 o = 3) (ho : a 52 (a 51 1 - 1) = S o) (pos : 0 < a 51 1) (fa : ∀ r, r ≠ 51 → a' r = a r) (f51 : a' 51 1 = a 51 1 - 1) (hb : b' = q_up (q_up b 141 o 0) 142 o 91) : zSc a' b' n m S p q R rho P ∧ zSf a a' b b' := by
  obtain ⟨n1, n2, n3, n4, n5, n6⟩ := H.nn
  have fb : ∀ r, r ≠ 141 → r ≠ 142 → b' r = b r := fun r x y => by rw [hb, q_up_ne y, q_up_ne x]
  have t141 : ∀ k, k ≠ o → b' 141 k = b 141 k := fun k hk => by rw [hb, q_up_ne (by decide), q_up_nj hk]
  have t141o : b' 141 o = 0 := by rw [hb, q_up_ne (by decide), q_up_at]
  have t142 : ∀ k, k ≠ o → b' 142 k = b 142 k := fun k hk => by rw [hb, q_up_nj hk, q_up_ne (by decide)]
  have t142o : b' 142 o = 91 := by rw [hb, q_up_at]
  have f48 : a' 48 = a 48 := fa 48 (by decide)
  have b0 := H.b0
  have cC : ∀ k (j : Nat), zCw b' k j = zCw b k j := fun k j => zCw_congr j (fun _ _ => ⟨by rw [fb 149 (by decide) (by decide)], by rw [fb 150 (by decide) (by decide)]⟩)
  have cO : ∀ k (j : Nat), zOu b' k j = zOu b k j := fun k j => zOu_congr j (fun _ _ => ⟨by rw [fb 148 (by decide) (by decide)], by rw [fb 150 (by decide) (by decide)]⟩)
  have ne1 : ∀ k, b 141 k = 1 → k ≠ o := fun k hk z => by rw [z] at hk; omega
  have Z1 : zPc (a' 48) b' S p q := by
    refine H.Z.conv (fun k k0 kp => ?_) (fb 138 (by decide) (by decide)) (fb 146 (by decide) (by decide)) (fb 148 (by decide) (by decide)) (fb 149 (by decide) (by decide)) (fb 150 (by decide) (by decide))
    by_cases z : k = o
    · rw [z]; exact Or.inr (Or.inl ⟨to, t141o, t142o, fun i _ _ => by rw [f48]⟩)
    · exact Or.inl ⟨t141 k z, t142 k z, by rw [fb 143 (by decide) (by decide)], fun i _ _ => by rw [f48]⟩
  have N1 : zRn a' b' S p q 0 R rho 0 := by
    refine zRn.mk ?_ (fun r u v => ?_) H.N.mo (fun r u v => ?_) (fun r u v => ?_) (fun r u v => ?_) (fun k u v w y => ?_)
    · rw [fa 54 (by decide), fa 56 (by decide), fa 58 (by decide), fa 60 (by decide), fa 62 (by decide)]; exact H.N.sz
    · obtain ⟨g1, g2, g3⟩ := H.N.rg r u v
      exact ⟨g1, g2, by rw [t141 _ (ne1 _ g3)]; exact g3⟩
    · rw [fa 59 (by decide), fa 61 (by decide), fa 63 (by decide), fb 143 (by decide) (by decide), fb 144 (by decide) (by decide), fb 145 (by decide) (by decide), fb 147 (by decide) (by decide)]; exact H.N.dt r u v
    · rw [fa 55 (by decide), cC]; exact H.N.bg r u v
    · rw [fa 55 (by decide), fa 57 (by decide), cO, fb 144 (by decide) (by decide), fb 147 (by decide) (by decide)]; exact H.N.en r u v
    · rw [fb 147 (by decide) (by decide)] at y
      have ko : k ≠ o := fun z => by rw [z, t141o] at w; omega
      rw [t141 k ko] at w
      exact H.N.lv k u v w y
  have four : ∀ k, b' 141 k = 4 ↔ b 141 k = 4 := fun k => by
    by_cases z : k = o
    · rw [z, t141o]; constructor <;> intro w <;> omega
    · rw [t141 k z]
  have five : ∀ k, b' 141 k = 5 ↔ b 141 k = 5 := fun k => by
    by_cases z : k = o
    · rw [z, t141o]; constructor <;> intro w <;> omega
    · rw [t141 k z]
  have dpe : ∀ j : Nat, zDp b' j = zDp b j := by
    intro j
    induction j with
    | zero => rfl
    | succ j ih =>
      show zDp b' j + (if b' 141 (j : Int) = 4 then 1 else if b' 141 (j : Int) = 5 then -1 else 0) = zDp b j + (if b 141 (j : Int) = 4 then 1 else if b 141 (j : Int) = 5 then -1 else 0)
      rw [ih]
      by_cases z4 : b 141 (j : Int) = 4
      · rw [if_pos z4, if_pos ((four _).mpr z4)]
      · rw [if_neg z4, if_neg (fun w => z4 ((four _).mp w))]
        by_cases z5 : b 141 (j : Int) = 5
        · rw [if_pos z5, if_pos ((five _).mpr z5)]
        · rw [if_neg z5, if_neg (fun w => z5 ((five _).mp w))]
  have uniq : ∀ i, 0 ≤ i → i < a 51 1 - 1 → a 52 i ≠ S o := fun i u v z => by
    have := H.b2 i (a 51 1 - 1) u v (by omega)
    omega
  refine ⟨H.upd (fun r hr => fa r (by omega)) (fun r x y => fb r (by omega) (by omega)) (fun j _ _ => by rw [fb 113 (by decide) (by decide)]) Z1 N1 ⟨by rw [fb 113 (by decide) (by decide)]; exact n1, by rw [fb 113 (by decide) (by decide)]; exact n2, n5, Int.le_refl P, n6⟩ (fun r u v => ?_) (fun i u v => by rw [f48]; exact (H.rest i u v).1) (fun i u v => by rw [f48]; exact H.sg i u v) (fun k u v w => ⟨(four k).mp w, v, by rw [fb 143 (by decide) (by decide)], rfl⟩) (by omega) (fun i u v => ?_) (fun i j u v w => by rw [fa 52 (by decide)]; exact H.b2 i j u v (by omega)) (fun k u v w => ?_) (fun j hj => by rw [dpe]; exact H.dp j hj), zSf.mk (fun r hr => fa r (by omega)) (fun r x y => fb r (by omega) (by omega)) (fun j _ _ => by rw [fb 113 (by decide) (by decide)])⟩
  · rw [fb 147 (by decide) (by decide), cC, cO]; exact H.un r u v
  · obtain ⟨k, k0, kp, kt, ke⟩ := H.b1 i u (by omega)
    have ko : k ≠ o := fun z => uniq i u (by omega) (by rw [ke, z])
    exact ⟨k, k0, kp, by rw [t141 k ko]; exact kt, by rw [fa 52 (by decide)]; exact ke⟩
  · have ko : k ≠ o := fun z => by rw [z, t141o] at w; omega
    rw [t141 k ko] at w
    obtain ⟨i, i0, hi, ie⟩ := H.b3 k u v w
    have il : i ≠ a 51 1 - 1 := fun z => by
      rw [z, ho] at ie
      rcases Int.lt_or_lt_of_ne ko with y | y
      · have := H.Z.sep2 u y (by omega); have := H.Z.mono k u v; omega
      · have := H.Z.sep2 o0 y (by omega); have := H.Z.mono o o0 op; omega
    exact ⟨i, i0, by omega, by rw [fa 52 (by decide)]; exact ie⟩
/-- a ] -/
theorem zSc.bracket (H : zSc a b n m S p q R rho P) (lt : P < m) (hc : b 138 P = 93) (N : zNx X a b n m P KI) : c_Il_passBracket X P a KI := by
  obtain ⟨m0, m2⟩ := H.W.m0
  obtain ⟨s1, s2⟩ := H.W.sz
  obtain ⟨c1, c2, c3, c4⟩ := H.c0
  obtain ⟨n1, n2, n3, n4, n5, n6⟩ := H.nn
  have b0 := H.b0
  have toCuts : ∀ Kf : qM → Prop, c_m_closesLink X P b (fun r6 s5 => L_m_cuts_17 X r6 s5 Kf) → L_m_cuts_17 X P b Kf := fun Kf hk => H.cuts lt (Or.inl (by omega)) (by
    rw [hc]; exact sg_m_cuts_69 (z_t (by decide) (z_t (by decide) (z_f (fun z => z rfl) hk))))
  refine sg_Il_passBracket (k_Row_size q_row_51 (z_c (fun ne => ?_) (fun e => ⟨by omega, ?_⟩)))
  · -- there is one that is open
    have pos : 0 < a 51 1 := by omega
    obtain ⟨o, o0, op, to, ho⟩ := H.b1 (a 51 1 - 1) (by omega) (by omega)
    have mx : ∀ k, o < k → k < p → b 141 k ≠ 3 := fun k u v w => by
      obtain ⟨i, i0, hi, ie⟩ := H.b3 k (by omega) v w
      have := H.Z.sep2 o0 u (by omega)
      have := H.Z.mono o o0 op
      by_cases z : i = a 51 1 - 1
      · rw [z, ho] at ie; omega
      · have := H.b2 i (a 51 1 - 1) i0 (by omega) (by omega); omega
    have so := H.Z.sep2 o0 op (Int.le_refl p)
    have s0 := H.Z.sep o.toNat 0 (by decide) (by omega)
    rw [H.Z.s0, show (0 : Int) + (o.toNat : Int) = o by omega] at s0
    have mo := H.Z.mono o o0 op
    obtain ⟨k3a, k3b, k3c, k3d⟩ := H.Z.k3 o o0 op to
    refine k_Row_size q_row_51 ⟨by omega, k_Row_at q_row_51 (by omega) (k_Row_size q_row_51 ⟨by omega, k_Row_cut q_row_51 (fun _ _ => ⟨by omega, ?_⟩) (fun z => absurd ⟨by omega, by omega⟩ z)⟩)⟩
    rw [zT_in (by omega) (by omega), show a (51 + 1) (a 51 1 - 1) = S o from ho]
    generalize ea : q_up a 51 1 (a 51 1 - 1) = a1
    have fa : ∀ r, r ≠ 51 → a1 r = a r := fun r hr => by rw [← ea, q_up_ne hr]
    have f51 : a1 51 1 = a 51 1 - 1 := by rw [← ea, q_up_at]
    have W1 : zWr a1 b m := zWr.mk H.W.m0 (by rw [fa 45 (by decide)]; exact H.W.sz) (by rw [fa 46 (by decide)]; exact H.W.ch)
    have nbx : 0 ≤ zNb b m (P + 1) ∧ (0 < zNb b m (P + 1) → P + zNb b m (P + 1) + 3 ≤ m) := by
      unfold zNb
      by_cases z : ((P + 1 < m ∧ b 138 (P + 1) = 91) ∧ (1 ≤ zWord (b 138) (P + 1 + 1) m - (P + 1 + 1) ∧ zWord (b 138) (P + 1 + 1) m - (P + 1 + 1) ≤ 6) ∧ zI b m (zWord (b 138) (P + 1 + 1) m) = 93)
      · rw [if_pos z]
        have : zWord (b 138) (P + 1 + 1) m < m := by
          by_cases y : zWord (b 138) (P + 1 + 1) m < m
          · exact y
          · have := z.2.2; rw [zI_out (by omega)] at this; omega
        omega
      · rw [if_neg z]; omega
    generalize enb : zNb b m (P + 1) = nb at nbx
    refine k_Il_referenceEnd W1 (by omega) (by omega) ?_
    rw [enb]
    -- both look the name up
    have go : ∀ (f t B : Int), 0 ≤ f → f ≤ t → t ≤ m → B = (if 0 < nb then P + nb + 3 else P + 1) → B ≤ m → ((nb ≤ 0 ∧ f = S o + 1 ∧ t = P) ∨ (¬ nb ≤ 0 ∧ f = P + 2 ∧ t = P + 2 + nb)) → c_T_nameCode X 45 f t a1 (fun r2 s1 => ((((q_lcmp r2 0) ≠ 0) → c_Blocks_linkSign X r2 s1 (fun r4 s3 => L_Il_passBracket_123 X P (S o) B r4 s3 KI)) ∧ (¬ ((q_lcmp r2 0) ≠ 0) → L_Il_passBracket_123 X P (S o) B (-1) s1 KI))) := by
      intro f t B f0 ft tm hB Bm hcase
      obtain ⟨σ, τ, hst, A, M⟩ := H.look (X := X) fa rfl f0 ft tm
      refine A (fun r s => L_Il_passBracket_123 X P (S o) B r s KI) ?_
      -- the model up to the target
      have mod : ∀ KL : Int → qM → Prop, (∀ s7 : qM, s7 = q_up b 141 o 0 → (((τ ≠ (-1)) → L_m_closesLink_104 X P o nb τ 0 s7 KL) ∧ (¬ (τ ≠ (-1)) → ((0 : Int) ≤ o) ∧ (o < (241 : Int)) ∧ (∀ s8 : qM, s8 = q_up s7 142 o 91 → c_m_adds X 0 93 0 s8 (fun s9 => (-2147483648 ≤ (P + 1) ∧ (P + 1) < 2147483648) ∧ KL (P + 1) s9))))) → c_m_closesLink X P b KL := by
        intro KL hk
        refine sg_m_closesLink ?_
        rw [n2]
        refine k_m_lastOpen c3 (by omega) (fun no => absurd to (no o o0 op)) (fun j j0 jp jt jm => ?_)
        have ej : j = o := by
          rcases Int.lt_trichotomy j o with z | z | z
          · exact absurd to (jm o z op)
          · exact z
          · exact absurd jt (mx j z jp)
        rw [ej]
        refine z_t (by omega) ⟨by omega, k_m_nameBehind H.W (by omega) (by omega) ?_⟩
        rw [enb, k3c]
        rcases hcase with ⟨z, h1, h2⟩ | ⟨z, h1, h2⟩
        · rw [h1, h2] at M
          exact z_t z ⟨o0, by omega, by omega, M _ ⟨o0, by omega, hk⟩⟩
        · rw [h1, h2] at M
          exact z_f z ⟨by omega, by omega, by omega, M _ ⟨o0, by omega, hk⟩⟩
      rcases hst with ⟨h1, h2, h3, h4⟩ | ⟨h1, h2⟩
      · refine H.link fa o0 op to mx h1 h4 h2 h3 nbx.1 hB Bm lt (fun a' b' S' p' q' R' rho' Z' F' W' => ?_)
        refine N a' b' S' p' q' R' rho' B Z' F' (by rw [hB]; split <;> omega) (fun Kf hk => toCuts Kf (mod _ (fun s7 e7 => z_t (by omega) ?_)))
        rw [e7]; exact W' _ hk
      · rw [h1]
        refine sg_Il_passBracket_123 (z_f (fun z => z rfl) ⟨by omega, ?_⟩)
        obtain ⟨Z1, F1⟩ := H.unopen (a' := a1) o0 op to ho pos fa f51 rfl
        obtain ⟨b2, ⟨S2, p2, Z2⟩, F2, W2⟩ := Z1.plain (X := X) lt (v := 93) (by rw [F1.fb 138 (by decide) (by omega)]; exact hc.symm)
        refine N a1 b2 _ _ _ _ _ _ Z2 (F1.tr F2) (by omega) (fun Kf hk => toCuts Kf (mod _ (fun s7 e7 => z_f (fun z => z h2) ⟨o0, by omega, fun s8 e8 => ?_⟩)))
        rw [e8, e7]
        exact W2 _ ⟨by omega, hk⟩
    by_cases z : 0 < nb
    · rw [if_pos z]
      refine ⟨by omega, z_f (by omega) (sg_Il_passBracket_67 (z_f (by decide) ⟨by omega, by omega, ?_⟩))⟩
      rw [show P + 1 + nb + 2 = P + nb + 3 by omega, show P + nb + 3 - 1 = P + 2 + nb by omega]
      exact go (P + 2) (P + 2 + nb) (P + nb + 3) (by omega) (by omega) (by have := nbx.2 z; omega) (by rw [if_pos z]) (nbx.2 z) (Or.inr ⟨by omega, rfl, rfl⟩)
    · rw [if_neg z]
      refine ⟨by omega, z_t (by omega) (sg_Il_passBracket_67 (z_t rfl ⟨by omega, ?_⟩))⟩
      exact go (S o + 1) P (P + 1) (by omega) (by omega) (by omega) (by rw [if_neg z]) (by omega) (Or.inl ⟨by omega, rfl, rfl⟩)
  · have e := Decidable.not_not.mp e
    obtain ⟨b', ⟨S', p', Z⟩, F, W⟩ := H.plain (X := X) lt (v := 93) hc.symm
    refine N a b' _ _ _ _ _ _ Z F (by omega) (fun Kf hk => toCuts Kf (sg_m_closesLink ?_))
    rw [n2]
    refine k_m_lastOpen c3 (by omega) (fun _ => z_f (fun z => z rfl) (W _ ⟨by omega, hk⟩)) (fun j j0 jp jt _ => ?_)
    obtain ⟨i, i0, hi, _⟩ := H.b3 j j0 jp jt
    omega
/-- all characters -/
theorem k_scan : ∀ (d : Nat) (step : Int) (a b : qM) (S : Int → Int) (p : Int) (q : Nat) (R : Int) (rho : Int → Int) (P : Int), zSc a b n m S p q R rho P → m - P ≤ d → 0 ≤ step → step ≤ P →
    (∀ a' b' S' p' q' R' rho', zSc a' b' n m S' p' q' R' rho' m → zSf a a' b b' → (∀ Kf : qM → Prop, c_m_pairsUp X 0 p' b' Kf → L_m_cuts_17 X P b Kf) → c_Runs_resolve X 0 47 a' K) → L_Il_read_4 X P step a K := by
  intro d
  induction d with
  | zero =>
    intro step a b S p q R rho P H hd st sP h
    obtain ⟨m0, m2⟩ := H.W.m0
    obtain ⟨s1, s2⟩ := H.W.sz
    obtain ⟨n1, n2, n3, n4, n5, n6⟩ := H.nn
    have eP : P = m := by omega
    rw [eP] at H
    have fin := h a b S p q R rho H zSf.rf (fun Kf hk => sg_m_cuts_17 (z_t (by omega) (by rw [n2]; exact hk)))
    exact sg_Il_read_4 (z_c (fun _ => fin) (fun _ => k_Row_size q_row_45 (z_t (by omega) fin)))
  | succ d ih =>
    intro step a b S p q R rho P H hd st sP h
    obtain ⟨m0, m2⟩ := H.W.m0
    obtain ⟨s1, s2⟩ := H.W.sz
    obtain ⟨n1, n2, n3, n4, n5, n6⟩ := H.nn
    obtain ⟨c1, c2, c3, c4⟩ := H.c0
    by_cases eP : P = m
    · rw [eP] at H
      have fin := h a b S p q R rho H zSf.rf (fun Kf hk => sg_m_cuts_17 (z_t (by omega) (by rw [n2]; exact hk)))
      exact sg_Il_read_4 (z_c (fun _ => fin) (fun _ => k_Row_size q_row_45 (z_t (by omega) fin)))
    · have lt : P < m := by omega
      have N : zNx X a b n m P (fun r s => (-2147483648 ≤ (step + 1) ∧ (step + 1) < 2147483648) ∧ L_Il_read_4 X r (step + 1) s K) := fun a' b' S' p' q' R' rho' P' Z F lt' W => ⟨by omega, ih (step + 1) a' b' S' p' q' R' rho' P' Z (by omega) (by omega) (by omega) (fun a2 b2 S2 p2 q2 R2 rho2 Z2 F2 W2 => h a2 b2 S2 p2 q2 R2 rho2 Z2 (F.tr F2) (fun Kf hk => W Kf (W2 Kf hk)))⟩
      refine sg_Il_read_4 (z_f (by omega) (k_Row_size q_row_45 (z_f (by omega) (k_Row_at q_row_45 (by omega) ?_))))
      rw [H.W.zt, zI_in c1 lt]
      refine z_c (fun e42 => H.stars lt e42 N) (fun n42 => z_c (fun e91 => ?_) (fun n91 => z_c (fun e92 => H.escape lt e92 N) (fun n92 => z_c (fun e93 => H.bracket lt e93 N) (fun n93 => z_c (fun e96 => H.code lt e96 N) (fun n96 => ?_)))))
      · have b0 := H.b0
        refine k_Row_add q_row_51 b0.1 (by omega) ?_
        generalize ea : q_up (q_up a (51 + 1) (a 51 1) P) 51 1 (a 51 1 + 1) = a1
        obtain ⟨b', A, W⟩ := z_1V (k_m_adds (X := X) (b := b) (p := p) (τ := 3) (v := P) (u := 0) (KV := fun b' => zAd b b' p 3 P 0) n2 c3 (by omega) (fun b' A => A))
        obtain ⟨Z, F⟩ := H.openB (a' := a1) A lt e91 (fun r x y => by rw [← ea, q_up_ne x, q_up_ne y]) (by rw [← ea, q_up_at]) (by rw [← ea, q_up_ne (by decide), q_up_fn])
        have := N a1 b' _ _ _ _ _ _ Z F (by omega) (fun Kf hk => H.cuts lt (Or.inl (by omega)) (by
          rw [e91]; exact sg_m_cuts_69 (z_t (by decide) (z_f (fun z => z rfl) (W _ ⟨by omega, hk⟩)))))
        exact ⟨by omega, this⟩
      · obtain ⟨b', ⟨S', p', Z⟩, F, W⟩ := H.plain (X := X) lt (v := b 138 P) rfl
        have := N a b' _ _ _ _ _ _ Z F (by omega) (fun Kf hk => H.cuts lt (Or.inl n92) (sg_m_cuts_69 (z_t n96 (z_t n91 (z_t n93 (z_t n42 (W _ ⟨by omega, hk⟩)))))))
        exact ⟨by omega, this⟩
end ScanAll
