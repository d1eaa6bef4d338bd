/-! Names and definitions of the model. -/
section MNames
variable {X : Nat × (Nat → Int32)} {s : qM} {K : Int → qM → Prop} {KV : qM → Prop} {t : Int → Int} {R E : Int}
theorem getD_snoc {l : List Int} {x : Int} {i : Nat} : (l ++ [x]).getD i 0 = if i = l.length then x else l.getD i 0 := by
  rcases Nat.lt_trichotomy i l.length with h | h | h
  · rw [if_neg (by omega), List.getD_eq_getElem?_getD, List.getD_eq_getElem?_getD, List.getElem?_append_left h]
  · rw [if_pos h, List.getD_eq_getElem?_getD, h, List.getElem?_append_right (Nat.le_refl _)]; simp
  · rw [if_neg (by omega), List.getD_eq_getElem?_getD, List.getD_eq_getElem?_getD, List.getElem?_eq_none (by rw [List.length_append]; simp; omega), List.getElem?_eq_none (by omega)]
theorem getD_out {l : List Int} {i : Nat} (h : l.length ≤ i) : l.getD i 0 = 0 := by
  rw [List.getD_eq_getElem?_getD, List.getElem?_eq_none h]; rfl
theorem k_m_names {k a b : Int} (k0 : 0 ≤ k) (kn : k < 600) (ha : 0 ≤ a) (hab : a ≤ b) (hb : b ≤ 240)
    (h : ∀ s', (∀ q, q ≠ 130 → s' q = s q) → (∀ j, j < 6 * k ∨ 6 * k + 6 ≤ j → s' 130 j = s 130 j) → (∀ i : Nat, i < 6 → s' 130 (6 * k + i) = (zAnc (s 114) a b).getD i 0) → KV s') : c_m_names X k a b s KV := by
  have L2 : ∀ (n : Nat) (p : Int) (acc : List Int) (m : Int) (s1 : qM), p + n = b → a ≤ p → acc.length ≤ 6 → m = acc.length → (∀ q, q ≠ 130 → s1 q = s q) → (∀ j, j < 6 * k ∨ 6 * k + 6 ≤ j → s1 130 j = s 130 j) → (∀ i : Nat, i < 6 → s1 130 (6 * k + i) = acc.getD i 0) → zAnc (s 114) a b = (if (acc ++ zLt (s 114) p n).take 6 = [] then [120] else (acc ++ zLt (s 114) p n).take 6) → L_m_names_35 X k b m p s1 KV := by
    intro n
    have stop : ∀ (acc : List Int) (m : Int) (s1 : qM), m = acc.length → (∀ q, q ≠ 130 → s1 q = s q) → (∀ j, j < 6 * k ∨ 6 * k + 6 ≤ j → s1 130 j = s 130 j) → (∀ i : Nat, i < 6 → s1 130 (6 * k + i) = acc.getD i 0) → zAnc (s 114) a b = (if acc = [] then [120] else acc) →
        (-2147483648 ≤ (6 * k) ∧ (6 * k) < 2147483648) ∧ (((m ≠ 0) → (-2147483648 ≤ (6 * k) ∧ (6 * k) < 2147483648) ∧ ((0 : Int) ≤ (6 * k)) ∧ ((6 * k) < (3600 : Int)) ∧ ((0 : Int) ≤ (6 * k)) ∧ ((6 * k) < (3600 : Int)) ∧ (∀ s2 : qM, s2 = q_up s1 130 (6 * k) (s1 130 (6 * k)) → KV s2)) ∧ (¬ (m ≠ 0) → ((0 : Int) ≤ (6 * k)) ∧ ((6 * k) < (3600 : Int)) ∧ (∀ s2 : qM, s2 = q_up s1 130 (6 * k) 120 → KV s2))) := by
      intro acc m s1 em f1 f2 f3 e
      refine ⟨by omega, z_c (fun x => ⟨by omega, by omega, by omega, by omega, by omega, fun s2 e2 => ?_⟩) (fun x => ⟨by omega, by omega, fun s2 e2 => ?_⟩)⟩
      · have same : s2 130 = s1 130 := by
          rw [e2, q_up_fn]; funext j
          by_cases y : j = 6 * k
          · rw [y, q_u_at]
          · rw [q_u_ne y]
        rw [if_neg (fun z => by rw [z] at em; simp at em; omega)] at e
        exact h s2 (fun q hq => by rw [e2, q_up_ne hq]; exact f1 q hq) (by rw [same]; exact f2) (by rw [same, e]; exact f3)
      · have en : acc = [] := by
          cases acc with
          | nil => rfl
          | cons y l => simp at em; omega
        rw [if_pos en] at e
        refine h s2 (fun q hq => by rw [e2, q_up_ne hq]; exact f1 q hq) (fun j hj => by rw [e2, q_up_nj (by omega)]; exact f2 j hj) (fun i hi => ?_)
        rw [e]
        by_cases y : i = 0
        · rw [y, e2, show 6 * k + ((0 : Nat) : Int) = 6 * k by omega, q_up_at]; rfl
        · rw [e2, q_up_nj (by omega), f3 i hi, en, getD_out (by simp), getD_out (by simp; omega)]
    induction n with
    | zero =>
      intro p acc m s1 hp hap hl em f1 f2 f3 e
      have et : (acc ++ zLt (s 114) p 0).take 6 = acc := by unfold zLt; rw [List.append_nil]; exact List.take_of_length_le hl
      rw [et] at e
      exact sg_m_names_35 (z_t (by omega) (stop acc m s1 em f1 f2 f3 e))
    | succ n ih =>
      intro p acc m s1 hp hap hl em f1 f2 f3 e
      refine sg_m_names_35 (z_f (by omega) (z_c (fun x => ?_) (fun x => ⟨by omega, by omega, ?_⟩)))
      · have e6 : acc.length = 6 := by omega
        have et : (acc ++ zLt (s 114) p (n + 1)).take 6 = acc := by rw [← e6]; exact List.take_left' rfl
        rw [et] at e
        exact stop acc m s1 em f1 f2 f3 e
      · rw [f1 114 (by decide)]
        refine k_m_isLetter (fun y => z_f (by decide) ⟨by omega, by omega, by omega, by omega, by omega, by omega, fun s2 e2 => ⟨by omega, by omega, ?_⟩⟩) (fun y => z_t rfl ⟨by omega, ?_⟩)
        · rw [f1 114 (by decide)] at e2
          refine ih (p + 1) (acc ++ [s 114 p]) _ s2 (by omega) (by omega) (by rw [List.length_append]; simp; omega) (by rw [List.length_append]; simp; omega) (fun q hq => by rw [e2, q_up_ne hq]; exact f1 q hq) (fun j hj => by rw [e2, q_up_nj (by omega)]; exact f2 j hj) (fun i hi => ?_) ?_
          · rw [getD_snoc]
            by_cases z : i = acc.length
            · rw [if_pos z, e2, show 6 * k + (i : Int) = 6 * k + m by omega, q_up_at]
            · rw [if_neg z, e2, q_up_nj (by omega)]; exact f3 i hi
          · rw [e]
            have : acc ++ [s 114 p] ++ zLt (s 114) (p + 1) n = acc ++ zLt (s 114) p (n + 1) := by
              rw [List.append_assoc]
              have : zLt (s 114) p (n + 1) = s 114 p :: zLt (s 114) (p + 1) n := by
                show (if zLet (s 114 p) then s 114 p :: zLt (s 114) (p + 1) n else zLt (s 114) (p + 1) n) = _
                rw [if_pos y]
              rw [this]; rfl
            rw [this]
        · refine ih (p + 1) acc m s1 (by omega) (by omega) hl em f1 f2 f3 ?_
          rw [e]
          have : zLt (s 114) p (n + 1) = zLt (s 114) (p + 1) n := by
            show (if zLet (s 114 p) then s 114 p :: zLt (s 114) (p + 1) n else zLt (s 114) (p + 1) n) = _
            rw [if_neg y]
          rw [this]
  have L1 : ∀ (n : Nat) (v : Int) (s1 : qM), v + n = 6 → 0 ≤ v → (∀ q, q ≠ 130 → s1 q = s q) → (∀ j, j < 6 * k ∨ 6 * k + 6 ≤ j → s1 130 j = s 130 j) → (∀ i : Nat, (i : Int) < v → s1 130 (6 * k + i) = 0) → L_m_names_6 X k a b 0 v s1 KV := by
    intro n
    induction n with
    | zero =>
      intro v s1 hv v0 f1 f2 f3
      refine sg_m_names_6 (z_t (by omega) (L2 (b - a).toNat a [] 0 s1 (by omega) (Int.le_refl a) (by simp) rfl f1 f2 (fun i hi => by rw [f3 i (by omega)]; rfl) (by unfold zAnc; rw [List.nil_append])))
    | succ n ih =>
      intro v s1 hv v0 f1 f2 f3
      refine sg_m_names_6 (z_f (by omega) ⟨by omega, by omega, by omega, by omega, fun s2 e2 => ⟨by omega, ih (v + 1) s2 (by omega) (by omega) (fun q hq => by rw [e2, q_up_ne hq]; exact f1 q hq) (fun j hj => by rw [e2, q_up_nj (by omega)]; exact f2 j hj) (fun i hi => ?_)⟩⟩)
      by_cases z : (i : Int) = v
      · rw [e2, z, q_up_at]
      · rw [e2, q_up_nj (by omega)]; exact f3 i (by omega)
  exact sg_m_names (L1 6 0 s (by omega) (by omega) (fun _ _ => rfl) (fun _ _ => rfl) (fun i hi => by omega))
theorem zWord_to {a m b : Int} (h1 : a ≤ m) (h2 : m ≤ b) (h : ∀ i, m ≤ i → i < b → t i = 32) : zWord t a m = zWord t a b := by
  obtain ⟨g1, g2, g3, g4⟩ := zWord_is (t := t) (show a ≤ b by omega)
  have le : zWord t a b ≤ m := by
    by_cases x : zWord t a b ≤ m
    · exact x
    · have y := g3 m h1 (by omega)
      rw [h m (Int.le_refl m) (by omega)] at y
      unfold zLet at y; omega
  refine zWord_eq g1 le g3 ?_
  rcases g4 with g4 | g4
  · left; omega
  · exact Or.inr g4
theorem zSkip_to {a m b : Int} (h1 : a < m) (h2 : m ≤ b) (h : t (m - 1) ≠ 32) : zSkip t a m = zSkip t a b ∧ zSkip t a b < m := by
  obtain ⟨g1, g2, g3, g4⟩ := zSkip_is (t := t) (show a ≤ b by omega)
  have lt : zSkip t a b < m := by
    by_cases x : zSkip t a b < m
    · exact x
    · exact absurd (g3 (m - 1) (by omega) (by omega)) h
  exact ⟨zSkip_eq g1 (by omega) g3 (Or.inr (g4.resolve_left (by omega))), lt⟩
theorem k_m_isDefinition (H : zMl s t R E) (lt : R < E) (h1 : zDf t R E → K 1 s) (h0 : ¬ zDf t R E → K 0 s) : c_m_isDefinition X s K := by
  have hE := H.En
  have hN := H.n240
  have hR := H.R0
  have hRE := H.RE
  obtain ⟨t1, t2, t3, t4⟩ := zTrim_is (t := t) hRE
  refine sg_m_isDefinition ?_
  rw [H.rest, H.stop]
  refine k_m_trimmed hR hRE (by omega) ?_
  rw [H.tx, H.rest]
  have tail : ∀ T, 0 ≤ T → T ≤ zTrim t R E → (1 ≤ zWord t T (zTrim t R E) - T ∧ zWord t T (zTrim t R E) - T ≤ 8 ∧ zWord t T (zTrim t R E) = zTrim t R E → K 1 s) → (¬ (1 ≤ zWord t T (zTrim t R E) - T ∧ zWord t T (zTrim t R E) - T ≤ 8 ∧ zWord t T (zTrim t R E) = zTrim t R E) → K 0 s) →
      c_m_letters X T (zTrim t R E) s (fun r2 s1 => c_m_isIn X r2 1 8 s1 (fun r4 s3 => (((r4 = 0) → K 0 s3) ∧ (¬ (r4 = 0) → c_m_letters X T (zTrim t R E) s3 (fun r6 s5 => (-2147483648 ≤ (T + r6) ∧ (T + r6) < 2147483648) ∧ ((((T + r6) ≠ (zTrim t R E)) → K 0 s5) ∧ (¬ ((T + r6) ≠ (zTrim t R E)) → K 1 s5))))))) := by
    intro T T0 TE y n
    have w := zWord_is (t := t) TE
    refine k_m_letters T0 TE (by omega) ?_
    rw [H.tx]
    refine k_m_isIn (fun a b => z_f (by decide) (k_m_letters T0 TE (by omega) ?_)) (fun a => z_t rfl (n (fun x => a ⟨x.1, x.2.1⟩)))
    rw [H.tx]
    exact ⟨by omega, z_c (fun x => n (fun z => by omega)) (fun x => y ⟨a, b, by omega⟩)⟩
  have loop : ∀ (n : Nat) (p : Int), 0 ≤ p → p ≤ zTrim t R E → p + n = zSkip t p (zTrim t R E) → (1 ≤ zWord t (zSkip t p (zTrim t R E)) (zTrim t R E) - zSkip t p (zTrim t R E) ∧ zWord t (zSkip t p (zTrim t R E)) (zTrim t R E) - zSkip t p (zTrim t R E) ≤ 8 ∧ zWord t (zSkip t p (zTrim t R E)) (zTrim t R E) = zTrim t R E → K 1 s) → (¬ (1 ≤ zWord t (zSkip t p (zTrim t R E)) (zTrim t R E) - zSkip t p (zTrim t R E) ∧ zWord t (zSkip t p (zTrim t R E)) (zTrim t R E) - zSkip t p (zTrim t R E) ≤ 8 ∧ zWord t (zSkip t p (zTrim t R E)) (zTrim t R E) = zTrim t R E) → K 0 s) → L_m_isDefinition_119 X (zTrim t R E) p s K := by
    intro n
    induction n with
    | zero =>
      intro p p0 pE hp y no
      have g := zSkip_is (t := t) pE
      have e : zSkip t p (zTrim t R E) = p := by omega
      rw [e] at y no
      refine sg_m_isDefinition_119 (z_c (fun x => tail p p0 pE y no) (fun x => ⟨p0, by omega, ?_⟩))
      rw [H.tx]
      refine z_t ?_ (tail p p0 pE y no)
      rcases g.2.2.2 with z | z
      · omega
      · rw [e] at z; exact z
    | succ n ih =>
      intro p p0 pE hp y no
      have g := zSkip_is (t := t) pE
      have e32 := g.2.2.1 p (Int.le_refl p) (by omega)
      have e : zSkip t (p + 1) (zTrim t R E) = zSkip t p (zTrim t R E) := zSkip_eq (by omega) g.2.1 (fun i a b => g.2.2.1 i (by omega) b) g.2.2.2
      refine sg_m_isDefinition_119 (z_f (by omega) ⟨p0, by omega, ?_⟩)
      rw [H.tx]
      refine z_f (fun x => x e32) ⟨by omega, ih (p + 1) (by omega) (by omega) (by omega) (by rw [e]; exact y) (by rw [e]; exact no)⟩
  have big : ∀ n, (t R ≠ 91 ∧ n = 0) ∨ (t R = 91 ∧ n = zWord t (R + 1) E - (R + 1)) → L_m_isDefinition_50 X (zTrim t R E) n s K := by
    intro n hn
    have w := zWord_is (t := t) (show R + 1 ≤ E by omega)
    refine sg_m_isDefinition_50 ?_
    rw [H.rest]
    refine ⟨by omega, by omega, k_m_isIn (fun a b => z_f (by decide) ?_) (fun a => z_t rfl (h0 (fun f => ?_)))⟩
    · have hn := hn.resolve_left (by omega)
      have en : R + 1 + n = zWord t (R + 1) E := by omega
      rw [en]
      unfold zDf at h1 h0
      generalize ee : zWord t (R + 1) E = e at *
      -- the trimmed end
      have far : t (e + 1) = 58 → e + 1 < E → e + 2 ≤ zTrim t R E := by
        intro x y
        by_cases z : e + 2 ≤ zTrim t R E
        · exact z
        · have := t3 (e + 1) (by omega) y; omega
      refine ⟨by omega, z_c (fun x => h0 (fun f => ?_)) (fun x => ⟨by omega, by omega, ?_⟩)⟩
      · obtain ⟨f1, f2, f3, f4, f5, f6, f7, f8⟩ := f
        have l3 := zLook_lt f3 (by decide)
        have g := zSkip_is (t := t) (show e + 2 ≤ E by omega)
        have u := zWord_is (t := t) (show zSkip t (e + 2) E ≤ E by omega)
        have le := u.2.2.1 (zSkip t (e + 2) E) (Int.le_refl _) (by omega)
        have : zSkip t (e + 2) E < zTrim t R E := by
          by_cases z : zSkip t (e + 2) E < zTrim t R E
          · exact z
          · have := t3 _ (by omega) (show zSkip t (e + 2) E < E by omega); rw [this] at le; unfold zLet at le; omega
        omega
      · rw [H.tx]
        refine z_c (fun y => h0 (fun f => y (zLook_lt f.2.1 (by decide)).2)) (fun y => ⟨by omega, by omega, by omega, z_c (fun y2 => h0 (fun f => y2 (zLook_lt f.2.2.1 (by decide)).2)) (fun y2 => ⟨by omega, by omega, by omega, z_c (fun y3 => ⟨by omega, ?_⟩) (fun y3 => h0 (fun f => ?_))⟩)⟩)
        · have y := Decidable.not_not.mp y
          have y2 := Decidable.not_not.mp y2
          have tne : t (zTrim t R E - 1) ≠ 32 := t4.resolve_left (by omega)
          obtain ⟨s1, s2⟩ := zSkip_to (t := t) (a := e + 2) (m := zTrim t R E) (b := E) (by omega) t2 tne
          have g := zSkip_is (t := t) (show e + 2 ≤ E by omega)
          have s3 : zSkip t (e + 2) E ≠ e + 2 := fun z => by
            rcases g.2.2.2 with v | v
            · omega
            · rw [z] at v; exact v y3
          have wt := zWord_to (t := t) (a := zSkip t (e + 2) E) (m := zTrim t R E) (b := E) (by omega) t2 t3
          have u := zWord_is (t := t) (show zSkip t (e + 2) E ≤ E by omega)
          have vt : zWord t (zSkip t (e + 2) E) E ≤ zTrim t R E := by rw [← wt]; exact (zWord_is (t := t) (show zSkip t (e + 2) E ≤ zTrim t R E by omega)).2.1
          have key : zSkip t (zWord t (zSkip t (e + 2) E) E) E = E ↔ zWord t (zSkip t (e + 2) E) E = zTrim t R E := by
            constructor
            · intro z
              have v := (zSkip_is (t := t) (show zWord t (zSkip t (e + 2) E) E ≤ E by omega)).2.2.1
              rw [z] at v
              by_cases o : zWord t (zSkip t (e + 2) E) E = zTrim t R E
              · exact o
              · exact absurd (v (zTrim t R E - 1) (by omega) (by omega)) tne
            · intro z
              exact zSkip_eq (by omega) (Int.le_refl E) (fun i c d => t3 i (by omega) d) (Or.inl rfl)
          refine loop (zSkip t (e + 2) (zTrim t R E) - (e + 2)).toNat (e + 2) (by omega) (by omega) (by rw [s1]; omega) (fun c => h1 ?_) (fun c => h0 (fun f => c ?_))
          · rw [s1, wt] at c
            exact ⟨by rw [zLook_in lt]; exact hn.1, by rw [zLook_in (by omega)]; exact y, by rw [zLook_in (by omega)]; exact y2, s3, ⟨c.1, c.2.1⟩, key.mpr c.2.2, by omega, by omega⟩
          · rw [s1, wt]
            exact ⟨f.2.2.2.2.1.1, f.2.2.2.2.1.2, key.mp f.2.2.2.2.2.1⟩
        · have g := zSkip_is (t := t) (show e + 2 ≤ E by omega)
          exact f.2.2.2.1 (zSkip_eq (Int.le_refl _) (by omega) (fun i c d => by omega) (Or.inr y3))
    · rcases hn with ⟨c, d⟩ | ⟨c, d⟩
      · exact c (zLook_lt f.1 (by decide)).2
      · have := f.2.2.2.2.2.2; omega
  refine z_c (fun e => big 0 (Or.inl ⟨fun x => ?_, rfl⟩)) (fun e => ⟨by omega, by omega, ?_⟩)
  · have := t3 R (by omega) lt; omega
  · refine z_c (fun x => big 0 (Or.inl ⟨x, rfl⟩)) (fun x => ⟨by omega, k_m_letters (by omega) (by omega) (by omega) ?_⟩)
    rw [H.tx, zWord_to (t := t) (a := R + 1) (m := zTrim t R E) (b := E) (by omega) t2 t3]
    exact big _ (Or.inr ⟨Decidable.not_not.mp x, rfl⟩)
end MNames
