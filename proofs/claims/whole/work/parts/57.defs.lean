/-! Names and definitions. -/
/-- the letters and digits from a place on -/
def zLt (t : Int → Int) : Int → Nat → List Int
  | _, 0 => []
  | k, n + 1 => if zLet (t k) then t k :: zLt t (k + 1) n else zLt t (k + 1) n
def zCode (l : List Int) : Int := l.foldl (fun c x => c * 128 + x) 0
/-- the first six of them; x without one -/
def zAnc (t : Int → Int) (a b : Int) : List Int := if (zLt t a (b - a).toNat).take 6 = [] then [120] else (zLt t a (b - a).toNat).take 6
section Defs
variable {X : Nat × (Nat → Int32)} {s : qM} {K : Int → qM → Prop} {KV : qM → Prop} {t : Int → Int} {R E : Int}
theorem zCode_snoc {l : List Int} {x : Int} : zCode (l ++ [x]) = zCode l * 128 + x := by unfold zCode; rw [List.foldl_append]; rfl
theorem zCode_bd : ∀ l : List Int, l.length ≤ 6 → (∀ x, x ∈ l → zLet x) → 0 ≤ zCode l ∧ zCode l < 4398046511104 := by
  intro l hl hx
  match l, hl, hx with
  | [], _, _ => exact ⟨by decide, by decide⟩
  | [a], _, hx =>
    have ha := hx a (by simp)
    simp only [zCode, List.foldl]; omega
  | [a, b], _, hx =>
    have ha := hx a (by simp)
    have hb := hx b (by simp)
    simp only [zCode, List.foldl]; omega
  | [a, b, c], _, hx =>
    have ha := hx a (by simp)
    have hb := hx b (by simp)
    have hc := hx c (by simp)
    simp only [zCode, List.foldl]; omega
  | [a, b, c, d], _, hx =>
    have ha := hx a (by simp)
    have hb := hx b (by simp)
    have hc := hx c (by simp)
    have hd := hx d (by simp)
    simp only [zCode, List.foldl]; omega
  | [a, b, c, d, e], _, hx =>
    have ha := hx a (by simp)
    have hb := hx b (by simp)
    have hc := hx c (by simp)
    have hd := hx d (by simp)
    have he := hx e (by simp)
    simp only [zCode, List.foldl]; omega
  | [a, b, c, d, e, f], _, hx =>
    have ha := hx a (by simp)
    have hb := hx b (by simp)
    have hc := hx c (by simp)
    have hd := hx d (by simp)
    have he := hx e (by simp)
    have hf := hx f (by simp)
    simp only [zCode, List.foldl]; omega
  | _ :: _ :: _ :: _ :: _ :: _ :: _ :: _, hl, _ => simp at hl
theorem zLt_mem : ∀ (n : Nat) (k : Int) (x : Int), x ∈ zLt t k n → zLet x := by
  intro n
  induction n with
  | zero => intro k x h; simp [zLt] at h
  | succ n ih =>
    intro k x h
    unfold zLt at h
    by_cases e : zLet (t k)
    · rw [if_pos e] at h
      rcases List.mem_cons.mp h with h | h
      · rw [h]; exact e
      · exact ih _ _ h
    · rw [if_neg e] at h; exact ih _ _ h
theorem zLt_congr {u : Int → Int} : ∀ (n : Nat) (k : Int), (∀ i, k ≤ i → i < k + n → t i = u i) → zLt t k n = zLt u k n := by
  intro n
  induction n with
  | zero => intro k _; rfl
  | succ n ih =>
    intro k h
    unfold zLt
    rw [h k (Int.le_refl k) (by omega), ih (k + 1) (fun i a b => h i (by omega) (by omega))]
theorem zLt_all : ∀ (n : Nat) (k : Int), (∀ i, k ≤ i → i < k + n → zLet (t i)) → (zLt t k n).length = n := by
  intro n
  induction n with
  | zero => intro k _; rfl
  | succ n ih =>
    intro k h
    unfold zLt
    rw [if_pos (h k (Int.le_refl k) (by omega)), List.length_cons, ih (k + 1) (fun i a b => h i (by omega) (by omega))]
theorem zAnc_all {a b : Int} (h1 : 1 ≤ b - a) (h6 : b - a ≤ 6) (h : ∀ i, a ≤ i → i < b → zLet (t i)) : zAnc t a b = zLt t a (b - a).toNat := by
  have hl := zLt_all (t := t) (b - a).toNat a (fun i x y => h i x (by omega))
  have e : (zLt t a (b - a).toNat).take 6 = zLt t a (b - a).toNat := List.take_of_length_le (by rw [hl]; omega)
  unfold zAnc
  rw [e, if_neg]
  intro z
  rw [z] at hl
  simp at hl
  omega
theorem zAnc_congr {u : Int → Int} {a b : Int} (h : ∀ i, a ≤ i → i < b → t i = u i) : zAnc t a b = zAnc u a b := by
  unfold zAnc
  rw [zLt_congr (t := t) (u := u) (b - a).toNat a (fun i x y => h i x (by omega))]
theorem zAnc_good {a b : Int} : 1 ≤ (zAnc t a b).length ∧ (zAnc t a b).length ≤ 6 ∧ ∀ x, x ∈ zAnc t a b → zLet x := by
  unfold zAnc
  by_cases e : (zLt t a (b - a).toNat).take 6 = []
  · rw [if_pos e]
    refine ⟨by simp, by simp, fun x h => ?_⟩
    rw [List.mem_singleton.mp h]; unfold zLet; omega
  · rw [if_neg e]
    refine ⟨?_, by rw [List.length_take]; omega, fun x h => zLt_mem _ _ x (List.mem_of_mem_take h)⟩
    cases hc : (zLt t a (b - a).toNat).take 6 with
    | nil => exact absurd hc e
    | cons _ _ => simp
theorem k_T_anchorCode {r N : Nat} (hr : q_isRow r N) (ok : s r 1 ≤ N) {a b : Int} (ha : -1000 ≤ a) (hab : a ≤ b) (hb : b ≤ 100000) (h : K (zCode (zAnc (zT s r) a b)) s) : c_T_anchorCode X r a b s K := by
  have L : ∀ (n : Nat) (k : Int) (acc : List Int) (c : Int) (m : Int), k + n = b → a ≤ k → acc.length ≤ 6 → (∀ x, x ∈ acc → zLet x) → c = zCode acc → m = acc.length → zAnc (zT s r) a b = (if (acc ++ zLt (zT s r) k n).take 6 = [] then [120] else (acc ++ zLt (zT s r) k n).take 6) → L_T_anchorCode_8 X r b c m k s K := by
    intro n
    have stop : ∀ (acc : List Int) (c m : Int), c = zCode acc → m = acc.length → zAnc (zT s r) a b = (if acc = [] then [120] else acc) → (((m ≠ 0) → K c s) ∧ (¬ (m ≠ 0) → K 120 s)) := by
      intro acc c m ec em e
      refine z_c (fun x => ?_) (fun x => ?_)
      · rw [if_neg (fun z => by rw [z] at em; simp at em; omega)] at e
        rw [ec, ← e]; exact h
      · have : acc = [] := by
          cases acc with
          | nil => rfl
          | cons y l => simp at em; omega
        rw [if_pos this] at e
        rw [e] at h
        exact h
    induction n with
    | zero =>
      intro k acc c m hk ha2 hl hx ec em e
      have et : (acc ++ zLt (zT s r) k 0).take 6 = acc := by unfold zLt; rw [List.append_nil]; exact List.take_of_length_le hl
      rw [et] at e
      exact sg_T_anchorCode_8 hr (z_t (by omega) (stop acc c m ec em e))
    | succ n ih =>
      intro k acc c m hk ha2 hl hx ec em e
      refine sg_T_anchorCode_8 hr (z_f (by omega) (z_c (fun x => ?_) (fun x => k_Row_at hr ok (k_T_isLetterOrDigit (fun y => z_f (by decide) ?_) (fun y => z_t rfl ⟨by omega, ?_⟩)))))
      · have e6 : acc.length = 6 := by omega
        have et : (acc ++ zLt (zT s r) k (n + 1)).take 6 = acc := by rw [← e6]; exact List.take_left' rfl
        rw [et] at e
        exact stop acc c m ec em e
      · have bd := zCode_bd acc hl hx
        have bd5 : c < 34359738368 := by
          have hx2 : ∀ x, x ∈ acc ++ [zT s r k] → zLet x := fun x hx' => by
            rcases List.mem_append.mp hx' with h' | h'
            · exact hx x h'
            · rw [List.mem_singleton.mp h']; exact y
          have := zCode_bd (acc ++ [zT s r k]) (by rw [List.length_append]; simp; omega) hx2
          rw [zCode_snoc] at this
          unfold zLet at y
          omega
        refine ⟨by omega, k_Row_at hr ok ⟨?_, by omega, by omega, ?_⟩⟩
        · unfold zLet at y; omega
        · refine ih (k + 1) (acc ++ [zT s r k]) _ _ (by omega) (by omega) (by rw [List.length_append]; simp; omega) (fun x hx' => ?_) (by rw [zCode_snoc, ec]) (by rw [List.length_append]; simp; omega) ?_
          · rcases List.mem_append.mp hx' with h' | h'
            · exact hx x h'
            · rw [List.mem_singleton.mp h']; exact y
          · rw [e]
            have : acc ++ [zT s r k] ++ zLt (zT s r) (k + 1) n = acc ++ zLt (zT s r) k (n + 1) := by
              rw [List.append_assoc]
              show acc ++ (zT s r k :: zLt (zT s r) (k + 1) n) = acc ++ zLt (zT s r) k (n + 1)
              have : zLt (zT s r) k (n + 1) = zT s r k :: zLt (zT s r) (k + 1) n := by
                show (if zLet (zT s r k) then zT s r k :: zLt (zT s r) (k + 1) n else zLt (zT s r) (k + 1) n) = _
                rw [if_pos y]
              rw [this]
            rw [this]
      · refine ih (k + 1) acc c m (by omega) (by omega) hl hx ec em ?_
        rw [e]
        have : zLt (zT s r) k (n + 1) = zLt (zT s r) (k + 1) n := by
          show (if zLet (zT s r k) then zT s r k :: zLt (zT s r) (k + 1) n else zLt (zT s r) (k + 1) n) = _
          rw [if_neg y]
        rw [this]
  exact sg_T_anchorCode hr (L (b - a).toNat a [] 0 0 (by omega) (Int.le_refl a) (by simp) (fun x h => by simp at h) rfl rfl (by unfold zAnc; rw [List.nil_append]))
theorem k_T_nameCode {r N : Nat} (hr : q_isRow r N) (ok : s r 1 ≤ N) {a b : Int} (ha : -1000 ≤ a) (hb : b ≤ 100000) (ha2 : a ≤ 100000) (hb2 : -1000 ≤ b)
    (h1 : 1 ≤ b - a → b - a ≤ 6 → zWord (zT s r) a b = b → K (zCode (zAnc (zT s r) a b)) s) (h0 : ¬ (1 ≤ b - a ∧ b - a ≤ 6 ∧ zWord (zT s r) a b = b) → K 0 s) : c_T_nameCode X r a b s K := by
  refine sg_T_nameCode hr (z_c (fun e => h0 (by omega)) (fun e => ⟨by omega, z_c (fun e2 => h0 (by omega)) (fun e2 => k_T_skipWord hr ok ha hb (z_c (fun e3 => ?_) (fun e3 => h0 (by omega))))⟩))
  obtain ⟨w1, w2, w3, w4⟩ := zWord_is (t := zT s r) (show a ≤ b by omega)
  have ew : zWord (zT s r) a b = b := by omega
  rw [ew] at w3
  have hK := h1 (by omega) (by omega) ew
  rw [zAnc_all (by omega) (by omega) w3] at hK
  have L : ∀ (n : Nat) (k : Int) (acc : List Int) (c : Int), k + n = b → a ≤ k → (acc.length : Int) = k - a → (∀ x, x ∈ acc → zLet x) → c = zCode acc → zLt (zT s r) a (b - a).toNat = acc ++ zLt (zT s r) k n → L_T_nameCode_30 X r b c k s K := by
    intro n
    induction n with
    | zero =>
      intro k acc c hk hak hl hx ec e
      refine sg_T_nameCode_30 hr (z_t (by omega) ?_)
      rw [ec]
      have : acc ++ zLt (zT s r) k 0 = acc := by unfold zLt; exact List.append_nil acc
      rw [e, this] at hK
      exact hK
    | succ n ih =>
      intro k acc c hk hak hl hx ec e
      have y := w3 k hak (by omega)
      have hx2 : ∀ x, x ∈ acc ++ [zT s r k] → zLet x := fun x hx' => by
        rcases List.mem_append.mp hx' with h' | h'
        · exact hx x h'
        · rw [List.mem_singleton.mp h']; exact y
      have bd := zCode_bd acc (by omega) hx
      have bd2 := zCode_bd (acc ++ [zT s r k]) (by rw [List.length_append]; simp; omega) hx2
      rw [zCode_snoc] at bd2
      unfold zLet at y
      refine sg_T_nameCode_30 hr (z_f (by omega) ⟨by omega, k_Row_at hr ok ⟨by omega, by omega, ?_⟩⟩)
      refine ih (k + 1) (acc ++ [zT s r k]) _ (by omega) (by omega) (by rw [List.length_append]; simp; omega) hx2 (by rw [zCode_snoc, ec]) ?_
      rw [e, List.append_assoc]
      have : zLt (zT s r) k (n + 1) = zT s r k :: zLt (zT s r) (k + 1) n := by
        show (if zLet (zT s r k) then zT s r k :: zLt (zT s r) (k + 1) n else zLt (zT s r) (k + 1) n) = _
        rw [if_pos y]
      rw [this]; rfl
  exact L (b - a).toNat a [] 0 (by omega) (Int.le_refl a) (by simp) (fun x h => by simp at h) rfl (by rw [List.nil_append])
theorem k_Rd_definedName (H : zCl s t R E) (lt : R < E) (h1 : zDf t R E → K (zCode (zAnc t (R + 1) (zWord t (R + 1) E))) s) (h0 : ¬ zDf t R E → K 0 s) : c_Rd_definedName X s K := by
  have hE := H.En
  have hN := H.n240
  have hR := H.R0
  have wc : ∀ a, 0 ≤ a → a ≤ E → zWord (zT s 1) a E = zWord t a E := fun a a0 aE => zU_congr aE (fun i x y => by unfold zIsW; rw [H.zt (by omega) (by omega)])
  refine sg_Rd_definedName ?_
  rw [H.rest, H.stop]
  refine ⟨by omega, k_T_skipWord q_row_1 hN (by omega) (by omega) ?_⟩
  rw [wc (R + 1) (by omega) (by omega)]
  obtain ⟨w1, w2, w3, w4⟩ := zWord_is (t := t) (show R + 1 ≤ E by omega)
  unfold zDf at h1 h0
  generalize ee : zWord t (R + 1) E = e at *
  refine ⟨by omega, k_Rd_look H (by omega) (by omega) ?_⟩
  rw [show R + 0 = R by omega]
  refine z_c (fun x => h0 (fun f => x f.1)) (fun x1 => ?_)
  rw [H.rest]
  refine ⟨by omega, k_Rd_look H (by omega) (by omega) ?_⟩
  rw [show R + (e - R) = e by omega]
  refine z_c (fun x => h0 (fun f => x f.2.1)) (fun x2 => ⟨by omega, ?_⟩)
  rw [H.rest]
  refine ⟨by omega, k_Rd_look H (by omega) (by omega) ?_⟩
  rw [show R + (e + 1 - R) = e + 1 by omega]
  refine z_c (fun x3 => ?_) (fun x3 => h0 (fun f => x3 f.2.2.1))
  have l3 := zLook_lt x3 (by decide)
  rw [H.stop]
  refine k_T_skipBlanks q_row_1 hN (by omega) (by omega) ?_
  rw [H.skip (by omega) (by omega), H.stop]
  obtain ⟨g1, g2, g3, g4⟩ := zSkip_is (t := t) (show e + 2 ≤ E by omega)
  refine k_T_skipWord q_row_1 hN (by omega) (by omega) ?_
  rw [wc _ (by omega) (by omega)]
  generalize eT : zSkip t (e + 2) E = T at *
  obtain ⟨u1, u2, u3, u4⟩ := zWord_is (t := t) (show T ≤ E by omega)
  generalize eU : zWord t T E = U at *
  refine ⟨by omega, z_c (fun x => h0 (fun f => f.2.2.2.1 x)) (fun x4 => z_c (fun x => h0 (fun f => by have := f.2.2.2.2.1; omega)) (fun x5 => z_c (fun x => h0 (fun f => by have := f.2.2.2.2.1; omega)) (fun x6 => ?_)))⟩
  rw [H.stop]
  refine k_T_skipBlanks q_row_1 hN (by omega) (by omega) ?_
  rw [H.skip (by omega) (by omega), H.stop, H.rest]
  obtain ⟨v1, v2, _, _⟩ := zSkip_is (t := t) (show U ≤ E by omega)
  refine z_c (fun x7 => ⟨by omega, ?_⟩) (fun x7 => h0 (fun f => by have := f.2.2.2.2.2.1; omega))
  have cg : ∀ i, R + 1 ≤ i → i < e → zT s 1 i = t i := fun i x y => H.zt (by omega) (by omega)
  have ew : zWord (zT s 1) (R + 1) e = e := zWord_eq w1 (Int.le_refl e) (fun i x y => by rw [cg i x y]; exact w3 i x y) (Or.inl rfl)
  refine k_T_nameCode q_row_1 hN (by omega) (by omega) (by omega) (by omega) (fun y1 y2 y3 => ?_) (fun y => h0 (fun f => y ⟨f.2.2.2.2.2.2.1, f.2.2.2.2.2.2.2, ew⟩))
  rw [zAnc_congr cg]
  exact h1 ⟨Decidable.not_not.mp x1, Decidable.not_not.mp x2, x3, x4, ⟨by omega, by omega⟩, by omega, y1, y2⟩
end Defs
