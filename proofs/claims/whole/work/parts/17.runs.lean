/-! What methods and places of methods come to, by program (wip/tools/seg.py). -/
/-- 14: Marktongue.put(II)I -/
def c_T_put (X : Nat × (Nat → Int32)) (x1 : Int) (x2 : Int) (s : qM) (K : Int ⊕ Nat → qM → Prop) : Prop := q_W (PP X) 14 (0, [some (.inr (.inr (.inl (some 0)))), some (.inl x1), some (.inl x2)], [], S0, s, 0, 0) (q_KX K)
/-- 15: Marktongue.take(II)I -/
def c_T_take (X : Nat × (Nat → Int32)) (x1 : Int) (x2 : Int) (s : qM) (K : Int ⊕ Nat → qM → Prop) : Prop := q_W (PP X) 15 (0, [some (.inr (.inr (.inl (some 0)))), some (.inl x1), some (.inl x2)], [], S0, s, 0, 0) (q_KX K)
/-- 16: Marktongue.length()I -/
def c_T_length (X : Nat × (Nat → Int32))  (s : qM) (K : Int → qM → Prop) : Prop := q_W (PP X) 16 (0, [some (.inr (.inr (.inl (some 0))))], [], S0, s, 0, 0) (q_KI K)
/-- 17: Marktongue.character(I)I -/
def c_T_character (X : Nat × (Nat → Int32)) (x1 : Int) (s : qM) (K : Int ⊕ Nat → qM → Prop) : Prop := q_W (PP X) 17 (0, [some (.inr (.inr (.inl (some 0)))), some (.inl x1)], [], S0, s, 0, 0) (q_KX K)
/-- 18: Marktongue.clear()I -/
def c_T_clear (X : Nat × (Nat → Int32))  (s : qM) (K : Int → qM → Prop) : Prop := q_W (PP X) 18 (0, [some (.inr (.inr (.inl (some 0)))), none], [], S0, s, 0, 0) (q_KI K)
/-- 19: Marktongue.nodes()I -/
def c_T_nodes (X : Nat × (Nat → Int32))  (s : qM) (K : Int → qM → Prop) : Prop := q_W (PP X) 19 (0, [some (.inr (.inr (.inl (some 0))))], [], S0, s, 0, 0) (q_KI K)
/-- 20: Marktongue.node(II)I -/
def c_T_node (X : Nat × (Nat → Int32)) (x1 : Int) (x2 : Int) (s : qM) (K : Int ⊕ Nat → qM → Prop) : Prop := q_W (PP X) 20 (0, [some (.inr (.inr (.inl (some 0)))), some (.inl x1), some (.inl x2)], [], S0, s, 0, 0) (q_KX K)
/-- 21: Marktongue.child(II)I -/
def c_T_child (X : Nat × (Nat → Int32)) (x1 : Int) (x2 : Int) (s : qM) (K : Int ⊕ Nat → qM → Prop) : Prop := q_W (PP X) 21 (0, [some (.inr (.inr (.inl (some 0)))), some (.inl x1), some (.inl x2)], [], S0, s, 0, 0) (q_KX K)
/-- 22: Marktongue.owner(I)I -/
def c_T_owner (X : Nat × (Nat → Int32)) (x1 : Int) (s : qM) (K : Int ⊕ Nat → qM → Prop) : Prop := q_W (PP X) 22 (0, [some (.inr (.inr (.inl (some 0)))), some (.inl x1)], [], S0, s, 0, 0) (q_KX K)
/-- 23: Marktongue.leads(I)I -/
def c_T_leads (X : Nat × (Nat → Int32)) (x1 : Int) (s : qM) (K : Int ⊕ Nat → qM → Prop) : Prop := q_W (PP X) 23 (0, [some (.inr (.inr (.inl (some 0)))), some (.inl x1)], [], S0, s, 0, 0) (q_KX K)
/-- 24: Marktongue.count(I)I -/
def c_T_count (X : Nat × (Nat → Int32)) (x1 : Int) (s : qM) (K : Int ⊕ Nat → qM → Prop) : Prop := q_W (PP X) 24 (0, [some (.inr (.inr (.inl (some 0)))), some (.inl x1)], [], S0, s, 0, 0) (q_KX K)
/-- 25: Marktongue.print(I)I -/
def c_T_print (X : Nat × (Nat → Int32)) (x1 : Int) (s : qM) (K : Int ⊕ Nat → qM → Prop) : Prop := q_W (PP X) 25 (0, [some (.inr (.inr (.inl (some 0)))), some (.inl x1)], [], S0, s, 0, 0) (q_KX K)
/-- 26: Marktongue.printed(II)I -/
def c_T_printed (X : Nat × (Nat → Int32)) (x1 : Int) (x2 : Int) (s : qM) (K : Int ⊕ Nat → qM → Prop) : Prop := q_W (PP X) 26 (0, [some (.inr (.inr (.inl (some 0)))), some (.inl x1), some (.inl x2), none], [], S0, s, 0, 0) (q_KX K)
/-- 27: Marktongue.format()I -/
def c_T_format (X : Nat × (Nat → Int32))  (s : qM) (K : Int → qM → Prop) : Prop := q_W (PP X) 27 (0, [some (.inr (.inr (.inl (some 0)))), none], [], S0, s, 0, 0) (q_KI K)
/-- 28: Marktongue.keep(I)I -/
def c_T_keep (X : Nat × (Nat → Int32)) (x1 : Int) (s : qM) (K : Int ⊕ Nat → qM → Prop) : Prop := q_W (PP X) 28 (0, [some (.inr (.inr (.inl (some 0)))), some (.inl x1), none, none], [], S0, s, 0, 0) (q_KX K)
/-- 29: Marktongue.load(I)I -/
def c_T_load (X : Nat × (Nat → Int32)) (x1 : Int) (s : qM) (K : Int ⊕ Nat → qM → Prop) : Prop := q_W (PP X) 29 (0, [some (.inr (.inr (.inl (some 0)))), some (.inl x1)], [], S0, s, 0, 0) (q_KX K)
/-- 30: Marktongue.merge()I -/
def c_T_merge (X : Nat × (Nat → Int32))  (s : qM) (K : Int → qM → Prop) : Prop := q_W (PP X) 30 (0, [some (.inr (.inr (.inl (some 0))))], [], S0, s, 0, 0) (q_KI K)
/-- 31: Marktongue.growTree()V -/
def c_T_growTree (X : Nat × (Nat → Int32))  (s : qM) (K : qM → Prop) : Prop := q_W (PP X) 31 (0, [some (.inr (.inr (.inl (some 0)))), none, none, none], [], S0, s, 0, 0) (q_KV K)
def L_T_growTree_24 (X : Nat × (Nat → Int32))  (v1 : Int) (s : qM) (K : qM → Prop) : Prop := q_W (PP X) 31 (24, [some (.inr (.inr (.inl (some 0)))), some (.inl v1), none, none], [], S0, s, 0, 0) (q_KV K)
def L_T_growTree_58 (X : Nat × (Nat → Int32))  (v1 : Int) (s : qM) (K : qM → Prop) : Prop := q_W (PP X) 31 (58, [some (.inr (.inr (.inl (some 0)))), some (.inl v1), none, none], [], S0, s, 0, 0) (q_KV K)
/-- 32: Marktongue.copyLines(I)V -/
def c_T_copyLines (X : Nat × (Nat → Int32)) (x1 : Int) (s : qM) (K : qM → Prop) : Prop := q_W (PP X) 32 (0, [some (.inr (.inr (.inl (some 0)))), some (.inl x1), none, none, none, none, none], [], S0, s, 0, 0) (q_KV K)
def L_T_copyLines_18 (X : Nat × (Nat → Int32))  (v1 v2 v3 : Int) (s : qM) (K : qM → Prop) : Prop := q_W (PP X) 32 (18, [some (.inr (.inr (.inl (some 0)))), some (.inl v1), some (.inl v2), some (.inl v3), none, none, none], [], S0, s, 0, 0) (q_KV K)
def L_T_copyLines_94 (X : Nat × (Nat → Int32))  (v1 v2 v3 v5 v6 : Int) (s : qM) (K : qM → Prop) : Prop := q_W (PP X) 32 (94, [some (.inr (.inr (.inl (some 0)))), some (.inl v1), some (.inl v2), some (.inl v3), none, some (.inl v5), some (.inl v6)], [], S0, s, 0, 0) (q_KV K)
/-- 33: Marktongue.copyFence(II)V -/
def c_T_copyFence (X : Nat × (Nat → Int32)) (x1 : Int) (x2 : Int) (s : qM) (K : qM → Prop) : Prop := q_W (PP X) 33 (0, [some (.inr (.inr (.inl (some 0)))), some (.inl x1), some (.inl x2), none, none, none], [], S0, s, 0, 0) (q_KV K)
def L_T_copyFence_14 (X : Nat × (Nat → Int32))  (v1 v2 v3 v4 : Int) (s : qM) (K : qM → Prop) : Prop := q_W (PP X) 33 (14, [some (.inr (.inr (.inl (some 0)))), some (.inl v1), some (.inl v2), some (.inl v3), some (.inl v4), none], [], S0, s, 0, 0) (q_KV K)
def L_T_copyFence_40 (X : Nat × (Nat → Int32))  (v1 v2 v3 v4 v5 : Int) (s : qM) (K : qM → Prop) : Prop := q_W (PP X) 33 (40, [some (.inr (.inr (.inl (some 0)))), some (.inl v1), some (.inl v2), some (.inl v3), some (.inl v4), some (.inl v5)], [], S0, s, 0, 0) (q_KV K)
/-- 34: Marktongue.writeFormatted()V -/
def c_T_writeFormatted (X : Nat × (Nat → Int32))  (s : qM) (K : qM → Prop) : Prop := q_W (PP X) 34 (0, [some (.inr (.inr (.inl (some 0)))), none, none, none, none, none, none], [], S0, s, 0, 0) (q_KV K)
def L_T_writeFormatted_11 (X : Nat × (Nat → Int32))  (v1 v2 : Int) (s : qM) (K : qM → Prop) : Prop := q_W (PP X) 34 (11, [some (.inr (.inr (.inl (some 0)))), some (.inl v1), some (.inl v2), none, none, none, none], [], S0, s, 0, 0) (q_KV K)
def L_T_writeFormatted_89 (X : Nat × (Nat → Int32))  (v1 v2 v3 v4 t0 : Int) (s : qM) (K : qM → Prop) : Prop := q_W (PP X) 34 (89, [some (.inr (.inr (.inl (some 0)))), some (.inl v1), some (.inl v2), some (.inl v3), some (.inl v4), none, none], [(.inl t0)], S0, s, 0, 0) (q_KV K)
/-- 35: Marktongue.writeLine(IIZ)V -/
def c_T_writeLine (X : Nat × (Nat → Int32)) (x1 : Int) (x2 : Int) (x3 : Int) (s : qM) (K : qM → Prop) : Prop := q_W (PP X) 35 (0, [some (.inr (.inr (.inl (some 0)))), some (.inl x1), some (.inl x2), some (.inl x3), none], [], S0, s, 0, 0) (q_KV K)
def L_T_writeLine_35 (X : Nat × (Nat → Int32))  (v2 v4 : Int) (s : qM) (K : qM → Prop) : Prop := q_W (PP X) 35 (35, [some (.inr (.inr (.inl (some 0)))), none, some (.inl v2), none, some (.inl v4)], [], S0, s, 0, 0) (q_KV K)
/-- 36: Marktongue.isLetterOrDigit(I)Z -/
def c_T_isLetterOrDigit (X : Nat × (Nat → Int32)) (x1 : Int) (s : qM) (K : Int → qM → Prop) : Prop := q_W (PP X) 36 (0, [some (.inl x1)], [], S0, s, 0, 0) (q_KI K)
def L_T_isLetterOrDigit_12 (X : Nat × (Nat → Int32))  (v0 : Int) (s : qM) (K : Int → qM → Prop) : Prop := q_W (PP X) 36 (12, [some (.inl v0)], [], S0, s, 0, 0) (q_KI K)
/-- 37: Marktongue.isSign(I)Z -/
def c_T_isSign (X : Nat × (Nat → Int32)) (x1 : Int) (s : qM) (K : Int → qM → Prop) : Prop := q_W (PP X) 37 (0, [some (.inl x1)], [], S0, s, 0, 0) (q_KI K)
/-- 38: Marktongue.isGap(I)Z -/
def c_T_isGap (X : Nat × (Nat → Int32)) (x1 : Int) (s : qM) (K : Int → qM → Prop) : Prop := q_W (PP X) 38 (0, [some (.inl x1)], [], S0, s, 0, 0) (q_KI K)
/-- 39: Marktongue.skipBlanks(LMarktongue$Row;II)I -/
def c_T_skipBlanks (X : Nat × (Nat → Int32)) (x1 : Nat) (x2 : Int) (x3 : Int) (s : qM) (K : Int → qM → Prop) : Prop := q_W (PP X) 39 (0, [some (.inr (.inr (.inl (some x1)))), some (.inl x2), some (.inl x3), none], [], S0, s, 0, 0) (q_KI K)
def L_T_skipBlanks_2 (X : Nat × (Nat → Int32)) (x1 : Nat) (v2 v3 : Int) (s : qM) (K : Int → qM → Prop) : Prop := q_W (PP X) 39 (2, [some (.inr (.inr (.inl (some x1)))), none, some (.inl v2), some (.inl v3)], [], S0, s, 0, 0) (q_KI K)
/-- 40: Marktongue.cutBlanks(LMarktongue$Row;II)I -/
def c_T_cutBlanks (X : Nat × (Nat → Int32)) (x1 : Nat) (x2 : Int) (x3 : Int) (s : qM) (K : Int → qM → Prop) : Prop := q_W (PP X) 40 (0, [some (.inr (.inr (.inl (some x1)))), some (.inl x2), some (.inl x3), none], [], S0, s, 0, 0) (q_KI K)
def L_T_cutBlanks_2 (X : Nat × (Nat → Int32)) (x1 : Nat) (v1 v3 : Int) (s : qM) (K : Int → qM → Prop) : Prop := q_W (PP X) 40 (2, [some (.inr (.inr (.inl (some x1)))), some (.inl v1), none, some (.inl v3)], [], S0, s, 0, 0) (q_KI K)
/-- 41: Marktongue.skipWord(LMarktongue$Row;II)I -/
def c_T_skipWord (X : Nat × (Nat → Int32)) (x1 : Nat) (x2 : Int) (x3 : Int) (s : qM) (K : Int → qM → Prop) : Prop := q_W (PP X) 41 (0, [some (.inr (.inr (.inl (some x1)))), some (.inl x2), some (.inl x3), none], [], S0, s, 0, 0) (q_KI K)
def L_T_skipWord_2 (X : Nat × (Nat → Int32)) (x1 : Nat) (v2 v3 : Int) (s : qM) (K : Int → qM → Prop) : Prop := q_W (PP X) 41 (2, [some (.inr (.inr (.inl (some x1)))), none, some (.inl v2), some (.inl v3)], [], S0, s, 0, 0) (q_KI K)
/-- 42: Marktongue.nameCode(LMarktongue$Row;II)J -/
def c_T_nameCode (X : Nat × (Nat → Int32)) (x1 : Nat) (x2 : Int) (x3 : Int) (s : qM) (K : Int → qM → Prop) : Prop := q_W (PP X) 42 (0, [some (.inr (.inr (.inl (some x1)))), some (.inl x2), some (.inl x3), none, none, none], [], S0, s, 0, 0) (q_KL K)
def L_T_nameCode_30 (X : Nat × (Nat → Int32)) (x1 : Nat) (v2 v3 v5 : Int) (s : qM) (K : Int → qM → Prop) : Prop := q_W (PP X) 42 (30, [some (.inr (.inr (.inl (some x1)))), none, some (.inl v2), some (.inr (.inl v3)), none, some (.inl v5)], [], S0, s, 0, 0) (q_KL K)
/-- 43: Marktongue.anchorCode(LMarktongue$Row;II)J -/
def c_T_anchorCode (X : Nat × (Nat → Int32)) (x1 : Nat) (x2 : Int) (x3 : Int) (s : qM) (K : Int → qM → Prop) : Prop := q_W (PP X) 43 (0, [some (.inr (.inr (.inl (some x1)))), some (.inl x2), some (.inl x3), none, none, none, none], [], S0, s, 0, 0) (q_KL K)
def L_T_anchorCode_8 (X : Nat × (Nat → Int32)) (x1 : Nat) (v2 v3 v5 v6 : Int) (s : qM) (K : Int → qM → Prop) : Prop := q_W (PP X) 43 (8, [some (.inr (.inr (.inl (some x1)))), none, some (.inl v2), some (.inr (.inl v3)), none, some (.inl v5), some (.inl v6)], [], S0, s, 0, 0) (q_KL K)
/-- 45: MarktongueModel.thrown()I -/
def c_m_thrown (X : Nat × (Nat → Int32))  (s : qM) (K : Int → qM → Prop) : Prop := q_W (PP X) 45 (0, [some (.inr (.inr (.inl (some 113))))], [], S0, s, 0, 0) (q_KI K)
/-- 46: MarktongueModel.can(I)Z -/
def c_m_can (X : Nat × (Nat → Int32)) (x1 : Int) (s : qM) (K : Int → qM → Prop) : Prop := q_W (PP X) 46 (0, [some (.inr (.inr (.inl (some 113)))), some (.inl x1)], [], S0, s, 0, 0) (q_KI K)
/-- 47: MarktongueModel.isIn(III)Z -/
def c_m_isIn (X : Nat × (Nat → Int32)) (x1 : Int) (x2 : Int) (x3 : Int) (s : qM) (K : Int → qM → Prop) : Prop := q_W (PP X) 47 (0, [some (.inl x1), some (.inl x2), some (.inl x3)], [], S0, s, 0, 0) (q_KI K)
/-- 48: MarktongueModel.isLetter(I)Z -/
def c_m_isLetter (X : Nat × (Nat → Int32)) (x1 : Int) (s : qM) (K : Int → qM → Prop) : Prop := q_W (PP X) 48 (0, [some (.inl x1)], [], S0, s, 0, 0) (q_KI K)
/-- 49: MarktongueModel.isSign(I)Z -/
def c_m_isSign (X : Nat × (Nat → Int32)) (x1 : Int) (s : qM) (K : Int → qM → Prop) : Prop := q_W (PP X) 49 (0, [some (.inl x1)], [], S0, s, 0, 0) (q_KI K)
/-- 50: MarktongueModel.put(II)I -/
def c_m_put (X : Nat × (Nat → Int32)) (x1 : Int) (x2 : Int) (s : qM) (K : Int → qM → Prop) : Prop := q_W (PP X) 50 (0, [some (.inr (.inr (.inl (some 113)))), some (.inl x1), some (.inl x2), none, none], [], S0, s, 0, 0) (q_KI K)
def L_m_put_22 (X : Nat × (Nat → Int32))  (v1 v2 t0 : Int) (s : qM) (K : Int → qM → Prop) : Prop := q_W (PP X) 50 (22, [some (.inr (.inr (.inl (some 113)))), some (.inl v1), some (.inl v2), none, none], [(.inl t0)], S0, s, 0, 0) (q_KI K)
def L_m_put_77 (X : Nat × (Nat → Int32))  (v1 v2 v4 : Int) (s : qM) (K : Int → qM → Prop) : Prop := q_W (PP X) 50 (77, [some (.inr (.inr (.inl (some 113)))), some (.inl v1), some (.inl v2), none, some (.inl v4)], [], S0, s, 0, 0) (q_KI K)
/-- 51: MarktongueModel.takes(II)V -/
def c_m_takes (X : Nat × (Nat → Int32)) (x1 : Int) (x2 : Int) (s : qM) (K : qM → Prop) : Prop := q_W (PP X) 51 (0, [some (.inr (.inr (.inl (some 113)))), some (.inl x1), some (.inl x2), none], [], S0, s, 0, 0) (q_KV K)
def L_m_takes_12 (X : Nat × (Nat → Int32))  (v2 v3 : Int) (s : qM) (K : qM → Prop) : Prop := q_W (PP X) 51 (12, [some (.inr (.inr (.inl (some 113)))), none, some (.inl v2), some (.inl v3)], [], S0, s, 0, 0) (q_KV K)
/-- 52: MarktongueModel.take(II)I -/
def c_m_take (X : Nat × (Nat → Int32)) (x1 : Int) (x2 : Int) (s : qM) (K : Int → qM → Prop) : Prop := q_W (PP X) 52 (0, [some (.inr (.inr (.inl (some 113)))), some (.inl x1), some (.inl x2)], [], S0, s, 0, 0) (q_KI K)
/-- 53: MarktongueModel.length()I -/
def c_m_length (X : Nat × (Nat → Int32))  (s : qM) (K : Int → qM → Prop) : Prop := q_W (PP X) 53 (0, [some (.inr (.inr (.inl (some 113))))], [], S0, s, 0, 0) (q_KI K)
/-- 54: MarktongueModel.character(I)I -/
def c_m_character (X : Nat × (Nat → Int32)) (x1 : Int) (s : qM) (K : Int → qM → Prop) : Prop := q_W (PP X) 54 (0, [some (.inr (.inr (.inl (some 113)))), some (.inl x1)], [], S0, s, 0, 0) (q_KI K)
/-- 55: MarktongueModel.clear()I -/
def c_m_clear (X : Nat × (Nat → Int32))  (s : qM) (K : Int → qM → Prop) : Prop := q_W (PP X) 55 (0, [some (.inr (.inr (.inl (some 113)))), none], [], S0, s, 0, 0) (q_KI K)
/-- 56: MarktongueModel.endOf(I)I -/
def c_m_endOf (X : Nat × (Nat → Int32)) (x1 : Int) (s : qM) (K : Int → qM → Prop) : Prop := q_W (PP X) 56 (0, [some (.inr (.inr (.inl (some 113)))), some (.inl x1), none], [], S0, s, 0, 0) (q_KI K)
def L_m_endOf_2 (X : Nat × (Nat → Int32))  (v2 : Int) (s : qM) (K : Int → qM → Prop) : Prop := q_W (PP X) 56 (2, [some (.inr (.inr (.inl (some 113)))), none, some (.inl v2)], [], S0, s, 0, 0) (q_KI K)
/-- 57: MarktongueModel.isBlank(II)Z -/
def c_m_isBlank (X : Nat × (Nat → Int32)) (x1 : Int) (x2 : Int) (s : qM) (K : Int → qM → Prop) : Prop := q_W (PP X) 57 (0, [some (.inr (.inr (.inl (some 113)))), some (.inl x1), some (.inl x2), none, none], [], S0, s, 0, 0) (q_KI K)
def L_m_isBlank_5 (X : Nat × (Nat → Int32))  (v2 v3 v4 : Int) (s : qM) (K : Int → qM → Prop) : Prop := q_W (PP X) 57 (5, [some (.inr (.inr (.inl (some 113)))), none, some (.inl v2), some (.inl v3), some (.inl v4)], [], S0, s, 0, 0) (q_KI K)
/-- 58: MarktongueModel.isContainer(I)Z -/
def c_m_isContainer (X : Nat × (Nat → Int32)) (x1 : Int) (s : qM) (K : Int → qM → Prop) : Prop := q_W (PP X) 58 (0, [some (.inl x1)], [], S0, s, 0, 0) (q_KI K)
/-- 59: MarktongueModel.closesIn(I)V -/
def c_m_closesIn (X : Nat × (Nat → Int32)) (x1 : Int) (s : qM) (K : qM → Prop) : Prop := q_W (PP X) 59 (0, [some (.inr (.inr (.inl (some 113)))), some (.inl x1), none], [], S0, s, 0, 0) (q_KV K)
def L_m_closesIn_7 (X : Nat × (Nat → Int32))  (v2 : Int) (s : qM) (K : qM → Prop) : Prop := q_W (PP X) 59 (7, [some (.inr (.inr (.inl (some 113)))), none, some (.inl v2)], [], S0, s, 0, 0) (q_KV K)
/-- 60: MarktongueModel.puts(III)I -/
def c_m_puts (X : Nat × (Nat → Int32)) (x1 : Int) (x2 : Int) (x3 : Int) (s : qM) (K : Int → qM → Prop) : Prop := q_W (PP X) 60 (0, [some (.inr (.inr (.inl (some 113)))), some (.inl x1), some (.inl x2), some (.inl x3), none], [], S0, s, 0, 0) (q_KI K)
def L_m_puts_39 (X : Nat × (Nat → Int32))  (v1 v2 v3 t0 : Int) (s : qM) (K : Int → qM → Prop) : Prop := q_W (PP X) 60 (39, [some (.inr (.inr (.inl (some 113)))), some (.inl v1), some (.inl v2), some (.inl v3), none], [(.inl t0)], S0, s, 0, 0) (q_KI K)
def L_m_puts_115 (X : Nat × (Nat → Int32))  (v1 v3 t1 t2 : Int) (s : qM) (K : Int → qM → Prop) : Prop := q_W (PP X) 60 (115, [some (.inr (.inr (.inl (some 113)))), some (.inl v1), none, some (.inl v3), none], [(.inl t2), (.inl t1), (.inr (.inr (.inl (some 119))))], S0, s, 0, 0) (q_KI K)
/-- 61: MarktongueModel.owns(III)V -/
def c_m_owns (X : Nat × (Nat → Int32)) (x1 : Int) (x2 : Int) (x3 : Int) (s : qM) (K : qM → Prop) : Prop := q_W (PP X) 61 (0, [some (.inr (.inr (.inl (some 113)))), some (.inl x1), some (.inl x2), some (.inl x3), none], [], S0, s, 0, 0) (q_KV K)
def L_m_owns_3 (X : Nat × (Nat → Int32))  (v2 v3 v4 : Int) (s : qM) (K : qM → Prop) : Prop := q_W (PP X) 61 (3, [some (.inr (.inr (.inl (some 113)))), none, some (.inl v2), some (.inl v3), some (.inl v4)], [], S0, s, 0, 0) (q_KV K)
/-- 62: MarktongueModel.goesOn(I)Z -/
def c_m_goesOn (X : Nat × (Nat → Int32)) (x1 : Int) (s : qM) (K : Int → qM → Prop) : Prop := q_W (PP X) 62 (0, [some (.inr (.inr (.inl (some 113)))), some (.inl x1), none, none], [], S0, s, 0, 0) (q_KI K)
/-- 63: MarktongueModel.marker()I -/
def c_m_marker (X : Nat × (Nat → Int32))  (s : qM) (K : Int → qM → Prop) : Prop := q_W (PP X) 63 (0, [some (.inr (.inr (.inl (some 113)))), none, none, none], [], S0, s, 0, 0) (q_KI K)
def L_m_marker_25 (X : Nat × (Nat → Int32))  (t0 : Int) (s : qM) (K : Int → qM → Prop) : Prop := q_W (PP X) 63 (25, [some (.inr (.inr (.inl (some 113)))), none, none, none], [(.inl t0)], S0, s, 0, 0) (q_KI K)
def L_m_marker_87 (X : Nat × (Nat → Int32))  (v1 t0 : Int) (s : qM) (K : Int → qM → Prop) : Prop := q_W (PP X) 63 (87, [some (.inr (.inr (.inl (some 113)))), some (.inl v1), none, none], [(.inl t0)], S0, s, 0, 0) (q_KI K)
/-- 64: MarktongueModel.putsContainers(I)I -/
def c_m_putsContainers (X : Nat × (Nat → Int32)) (x1 : Int) (s : qM) (K : Int → qM → Prop) : Prop := q_W (PP X) 64 (0, [some (.inr (.inr (.inl (some 113)))), some (.inl x1), none, none, none, none], [], S0, s, 0, 0) (q_KI K)
def L_m_putsContainers_7 (X : Nat × (Nat → Int32))  (v2 v3 : Int) (s : qM) (K : Int → qM → Prop) : Prop := q_W (PP X) 64 (7, [some (.inr (.inr (.inl (some 113)))), none, some (.inl v2), some (.inl v3), none, none], [], S0, s, 0, 0) (q_KI K)
def L_m_putsContainers_115 (X : Nat × (Nat → Int32))  (v3 v4 t0 : Int) (s : qM) (K : Int → qM → Prop) : Prop := q_W (PP X) 64 (115, [some (.inr (.inr (.inl (some 113)))), none, none, some (.inl v3), some (.inl v4), none], [(.inl t0)], S0, s, 0, 0) (q_KI K)
def L_m_putsContainers_156 (X : Nat × (Nat → Int32))  (v2 v4 : Int) (s : qM) (K : Int → qM → Prop) : Prop := q_W (PP X) 64 (156, [some (.inr (.inr (.inl (some 113)))), none, some (.inl v2), none, some (.inl v4), none], [], S0, s, 0, 0) (q_KI K)
/-- 65: MarktongueModel.trimmed(II)I -/
def c_m_trimmed (X : Nat × (Nat → Int32)) (x1 : Int) (x2 : Int) (s : qM) (K : Int → qM → Prop) : Prop := q_W (PP X) 65 (0, [some (.inr (.inr (.inl (some 113)))), some (.inl x1), some (.inl x2), none], [], S0, s, 0, 0) (q_KI K)
def L_m_trimmed_2 (X : Nat × (Nat → Int32))  (v1 v3 : Int) (s : qM) (K : Int → qM → Prop) : Prop := q_W (PP X) 65 (2, [some (.inr (.inr (.inl (some 113)))), some (.inl v1), none, some (.inl v3)], [], S0, s, 0, 0) (q_KI K)
/-- 66: MarktongueModel.isFence()Z -/
def c_m_isFence (X : Nat × (Nat → Int32))  (s : qM) (K : Int → qM → Prop) : Prop := q_W (PP X) 66 (0, [some (.inr (.inr (.inl (some 113))))], [], S0, s, 0, 0) (q_KI K)
/-- 67: MarktongueModel.headingLevel()I -/
def c_m_headingLevel (X : Nat × (Nat → Int32))  (s : qM) (K : Int → qM → Prop) : Prop := q_W (PP X) 67 (0, [some (.inr (.inr (.inl (some 113)))), none], [], S0, s, 0, 0) (q_KI K)
def L_m_headingLevel_2 (X : Nat × (Nat → Int32))  (v1 : Int) (s : qM) (K : Int → qM → Prop) : Prop := q_W (PP X) 67 (2, [some (.inr (.inr (.inl (some 113)))), some (.inl v1)], [], S0, s, 0, 0) (q_KI K)
def L_m_headingLevel_37 (X : Nat × (Nat → Int32))  (v1 : Int) (s : qM) (K : Int → qM → Prop) : Prop := q_W (PP X) 67 (37, [some (.inr (.inr (.inl (some 113)))), some (.inl v1)], [], S0, s, 0, 0) (q_KI K)
/-- 68: MarktongueModel.letters(II)I -/
def c_m_letters (X : Nat × (Nat → Int32)) (x1 : Int) (x2 : Int) (s : qM) (K : Int → qM → Prop) : Prop := q_W (PP X) 68 (0, [some (.inr (.inr (.inl (some 113)))), some (.inl x1), some (.inl x2), none], [], S0, s, 0, 0) (q_KI K)
def L_m_letters_2 (X : Nat × (Nat → Int32))  (v1 v2 v3 : Int) (s : qM) (K : Int → qM → Prop) : Prop := q_W (PP X) 68 (2, [some (.inr (.inr (.inl (some 113)))), some (.inl v1), some (.inl v2), some (.inl v3)], [], S0, s, 0, 0) (q_KI K)
/-- 69: MarktongueModel.isDefinition()Z -/
def c_m_isDefinition (X : Nat × (Nat → Int32))  (s : qM) (K : Int → qM → Prop) : Prop := q_W (PP X) 69 (0, [some (.inr (.inr (.inl (some 113)))), none, none, none], [], S0, s, 0, 0) (q_KI K)
def L_m_isDefinition_50 (X : Nat × (Nat → Int32))  (v1 t0 : Int) (s : qM) (K : Int → qM → Prop) : Prop := q_W (PP X) 69 (50, [some (.inr (.inr (.inl (some 113)))), some (.inl v1), none, none], [(.inl t0)], S0, s, 0, 0) (q_KI K)
def L_m_isDefinition_119 (X : Nat × (Nat → Int32))  (v1 v3 : Int) (s : qM) (K : Int → qM → Prop) : Prop := q_W (PP X) 69 (119, [some (.inr (.inr (.inl (some 113)))), some (.inl v1), none, some (.inl v3)], [], S0, s, 0, 0) (q_KI K)
/-- 70: MarktongueModel.names(III)V -/
def c_m_names (X : Nat × (Nat → Int32)) (x1 : Int) (x2 : Int) (x3 : Int) (s : qM) (K : qM → Prop) : Prop := q_W (PP X) 70 (0, [some (.inr (.inr (.inl (some 113)))), some (.inl x1), some (.inl x2), some (.inl x3), none, none], [], S0, s, 0, 0) (q_KV K)
def L_m_names_6 (X : Nat × (Nat → Int32))  (v1 v2 v3 v4 v5 : Int) (s : qM) (K : qM → Prop) : Prop := q_W (PP X) 70 (6, [some (.inr (.inr (.inl (some 113)))), some (.inl v1), some (.inl v2), some (.inl v3), some (.inl v4), some (.inl v5)], [], S0, s, 0, 0) (q_KV K)
def L_m_names_35 (X : Nat × (Nat → Int32))  (v1 v3 v4 v5 : Int) (s : qM) (K : qM → Prop) : Prop := q_W (PP X) 70 (35, [some (.inr (.inr (.inl (some 113)))), some (.inl v1), none, some (.inl v3), some (.inl v4), some (.inl v5)], [], S0, s, 0, 0) (q_KV K)
/-- 71: MarktongueModel.openParagraph()I -/
def c_m_openParagraph (X : Nat × (Nat → Int32))  (s : qM) (K : Int → qM → Prop) : Prop := q_W (PP X) 71 (0, [some (.inr (.inr (.inl (some 113)))), none], [], S0, s, 0, 0) (q_KI K)
def L_m_openParagraph_2 (X : Nat × (Nat → Int32))  (v1 : Int) (s : qM) (K : Int → qM → Prop) : Prop := q_W (PP X) 71 (2, [some (.inr (.inr (.inl (some 113)))), some (.inl v1)], [], S0, s, 0, 0) (q_KI K)
/-- 72: MarktongueModel.lays(I)V -/
def c_m_lays (X : Nat × (Nat → Int32)) (x1 : Int) (s : qM) (K : qM → Prop) : Prop := q_W (PP X) 72 (0, [some (.inr (.inr (.inl (some 113)))), some (.inl x1)], [], S0, s, 0, 0) (q_KV K)
/-- 73: MarktongueModel.closes(I)V -/
def c_m_closes (X : Nat × (Nat → Int32)) (x1 : Int) (s : qM) (K : qM → Prop) : Prop := q_W (PP X) 73 (0, [some (.inr (.inr (.inl (some 113)))), some (.inl x1)], [], S0, s, 0, 0) (q_KV K)
/-- 74: MarktongueModel.looksAt(I)V -/
def c_m_looksAt (X : Nat × (Nat → Int32)) (x1 : Int) (s : qM) (K : qM → Prop) : Prop := q_W (PP X) 74 (0, [some (.inr (.inr (.inl (some 113)))), some (.inl x1), none, none, none, none, none, none, none, none, none], [], S0, s, 0, 0) (q_KV K)
def L_m_looksAt_31 (X : Nat × (Nat → Int32))  (v1 v2 v3 v4 : Int) (s : qM) (K : qM → Prop) : Prop := q_W (PP X) 74 (31, [some (.inr (.inr (.inl (some 113)))), some (.inl v1), some (.inl v2), some (.inl v3), some (.inl v4), none, none, none, none, none, none], [], S0, s, 0, 0) (q_KV K)
def L_m_looksAt_129 (X : Nat × (Nat → Int32))  (v1 v2 v3 v4 : Int) (s : qM) (K : qM → Prop) : Prop := q_W (PP X) 74 (129, [some (.inr (.inr (.inl (some 113)))), some (.inl v1), some (.inl v2), some (.inl v3), some (.inl v4), none, none, none, none, none, none], [], S0, s, 0, 0) (q_KV K)
def L_m_looksAt_228 (X : Nat × (Nat → Int32))  (v1 v2 v3 v5 v6 t0 : Int) (s : qM) (K : qM → Prop) : Prop := q_W (PP X) 74 (228, [some (.inr (.inr (.inl (some 113)))), some (.inl v1), some (.inl v2), some (.inl v3), none, some (.inl v5), some (.inl v6), none, none, none, none], [(.inl t0)], S0, s, 0, 0) (q_KV K)
def L_m_looksAt_496 (X : Nat × (Nat → Int32))  (v1 v6 v7 t1 t2 : Int) (s : qM) (K : qM → Prop) : Prop := q_W (PP X) 74 (496, [some (.inr (.inr (.inl (some 113)))), some (.inl v1), none, none, none, none, some (.inl v6), some (.inl v7), none, none, none], [(.inl t2), (.inl t1), (.inr (.inr (.inl (some 113))))], S0, s, 0, 0) (q_KV K)
def L_m_looksAt_398 (X : Nat × (Nat → Int32))  (v1 v3 v6 : Int) (s : qM) (K : qM → Prop) : Prop := q_W (PP X) 74 (398, [some (.inr (.inr (.inl (some 113)))), some (.inl v1), none, some (.inl v3), none, none, some (.inl v6), none, none, none, none], [], S0, s, 0, 0) (q_KV K)
def L_m_looksAt_264 (X : Nat × (Nat → Int32))  (v1 v2 v3 v7 v9 t0 : Int) (s : qM) (K : qM → Prop) : Prop := q_W (PP X) 74 (264, [some (.inr (.inr (.inl (some 113)))), some (.inl v1), some (.inl v2), some (.inl v3), none, none, none, some (.inl v7), none, some (.inl v9), none], [(.inl t0)], S0, s, 0, 0) (q_KV K)
/-- 75: MarktongueModel.closesBehind(II)V -/
def c_m_closesBehind (X : Nat × (Nat → Int32)) (x1 : Int) (x2 : Int) (s : qM) (K : qM → Prop) : Prop := q_W (PP X) 75 (0, [some (.inr (.inr (.inl (some 113)))), some (.inl x1), some (.inl x2), none], [], S0, s, 0, 0) (q_KV K)
/-- 76: MarktongueModel.blocks()V -/
def c_m_blocks (X : Nat × (Nat → Int32))  (s : qM) (K : qM → Prop) : Prop := q_W (PP X) 76 (0, [some (.inr (.inr (.inl (some 113)))), none], [], S0, s, 0, 0) (q_KV K)
def L_m_blocks_52 (X : Nat × (Nat → Int32))  (v1 : Int) (s : qM) (K : qM → Prop) : Prop := q_W (PP X) 76 (52, [some (.inr (.inr (.inl (some 113)))), some (.inl v1)], [], S0, s, 0, 0) (q_KV K)
/-- 77: MarktongueModel.laysInline(I)V -/
def c_m_laysInline (X : Nat × (Nat → Int32)) (x1 : Int) (s : qM) (K : qM → Prop) : Prop := q_W (PP X) 77 (0, [some (.inr (.inr (.inl (some 113)))), some (.inl x1), none, none, none, none], [], S0, s, 0, 0) (q_KV K)
def L_m_laysInline_7 (X : Nat × (Nat → Int32))  (v1 v2 : Int) (s : qM) (K : qM → Prop) : Prop := q_W (PP X) 77 (7, [some (.inr (.inr (.inl (some 113)))), some (.inl v1), some (.inl v2), none, none, none], [], S0, s, 0, 0) (q_KV K)
def L_m_laysInline_87 (X : Nat × (Nat → Int32))  (v1 v2 v3 v4 : Int) (s : qM) (K : qM → Prop) : Prop := q_W (PP X) 77 (87, [some (.inr (.inr (.inl (some 113)))), some (.inl v1), some (.inl v2), some (.inl v3), some (.inl v4), none], [], S0, s, 0, 0) (q_KV K)
def L_m_laysInline_115 (X : Nat × (Nat → Int32))  (v1 v2 v3 v5 : Int) (s : qM) (K : qM → Prop) : Prop := q_W (PP X) 77 (115, [some (.inr (.inr (.inl (some 113)))), some (.inl v1), some (.inl v2), some (.inl v3), none, some (.inl v5)], [], S0, s, 0, 0) (q_KV K)
/-- 78: MarktongueModel.in(I)I -/
def c_m_in (X : Nat × (Nat → Int32)) (x1 : Int) (s : qM) (K : Int → qM → Prop) : Prop := q_W (PP X) 78 (0, [some (.inr (.inr (.inl (some 113)))), some (.inl x1)], [], S0, s, 0, 0) (q_KI K)
/-- 79: MarktongueModel.isEdge(I)Z -/
def c_m_isEdge (X : Nat × (Nat → Int32)) (x1 : Int) (s : qM) (K : Int → qM → Prop) : Prop := q_W (PP X) 79 (0, [some (.inl x1)], [], S0, s, 0, 0) (q_KI K)
/-- 80: MarktongueModel.run(I)I -/
def c_m_run (X : Nat × (Nat → Int32)) (x1 : Int) (s : qM) (K : Int → qM → Prop) : Prop := q_W (PP X) 80 (0, [some (.inr (.inr (.inl (some 113)))), some (.inl x1), none], [], S0, s, 0, 0) (q_KI K)
def L_m_run_2 (X : Nat × (Nat → Int32))  (v1 v2 : Int) (s : qM) (K : Int → qM → Prop) : Prop := q_W (PP X) 80 (2, [some (.inr (.inr (.inl (some 113)))), some (.inl v1), some (.inl v2)], [], S0, s, 0, 0) (q_KI K)
/-- 81: MarktongueModel.adds(III)V -/
def c_m_adds (X : Nat × (Nat → Int32)) (x1 : Int) (x2 : Int) (x3 : Int) (s : qM) (K : qM → Prop) : Prop := q_W (PP X) 81 (0, [some (.inr (.inr (.inl (some 113)))), some (.inl x1), some (.inl x2), some (.inl x3)], [], S0, s, 0, 0) (q_KV K)
/-- 82: MarktongueModel.addsRun(I)V -/
def c_m_addsRun (X : Nat × (Nat → Int32)) (x1 : Int) (s : qM) (K : qM → Prop) : Prop := q_W (PP X) 82 (0, [some (.inr (.inr (.inl (some 113)))), some (.inl x1), none, none, none], [], S0, s, 0, 0) (q_KV K)
def L_m_addsRun_66 (X : Nat × (Nat → Int32))  (v1 v2 v3 v4 t1 t2 : Int) (s : qM) (K : qM → Prop) : Prop := q_W (PP X) 82 (66, [some (.inr (.inr (.inl (some 113)))), some (.inl v1), some (.inl v2), some (.inl v3), some (.inl v4)], [(.inl t2), (.inl t1), (.inr (.inr (.inl (some 144))))], S0, s, 0, 0) (q_KV K)
/-- 83: MarktongueModel.nextRun(II)I -/
def c_m_nextRun (X : Nat × (Nat → Int32)) (x1 : Int) (x2 : Int) (s : qM) (K : Int → qM → Prop) : Prop := q_W (PP X) 83 (0, [some (.inr (.inr (.inl (some 113)))), some (.inl x1), some (.inl x2), none], [], S0, s, 0, 0) (q_KI K)
def L_m_nextRun_2 (X : Nat × (Nat → Int32))  (v2 v3 : Int) (s : qM) (K : Int → qM → Prop) : Prop := q_W (PP X) 83 (2, [some (.inr (.inr (.inl (some 113)))), none, some (.inl v2), some (.inl v3)], [], S0, s, 0, 0) (q_KI K)
/-- 84: MarktongueModel.isSameName(III)Z -/
def c_m_isSameName (X : Nat × (Nat → Int32)) (x1 : Int) (x2 : Int) (x3 : Int) (s : qM) (K : Int → qM → Prop) : Prop := q_W (PP X) 84 (0, [some (.inr (.inr (.inl (some 113)))), some (.inl x1), some (.inl x2), some (.inl x3), none, none], [], S0, s, 0, 0) (q_KI K)
def L_m_isSameName_6 (X : Nat × (Nat → Int32))  (v1 v2 v3 v4 v5 : Int) (s : qM) (K : Int → qM → Prop) : Prop := q_W (PP X) 84 (6, [some (.inr (.inr (.inl (some 113)))), some (.inl v1), some (.inl v2), some (.inl v3), some (.inl v4), some (.inl v5)], [], S0, s, 0, 0) (q_KI K)
/-- 85: MarktongueModel.meant(II)I -/
def c_m_meant (X : Nat × (Nat → Int32)) (x1 : Int) (x2 : Int) (s : qM) (K : Int → qM → Prop) : Prop := q_W (PP X) 85 (0, [some (.inr (.inr (.inl (some 113)))), some (.inl x1), some (.inl x2), none, none, none], [], S0, s, 0, 0) (q_KI K)
def L_m_meant_13 (X : Nat × (Nat → Int32))  (v1 v2 v3 v4 : Int) (s : qM) (K : Int → qM → Prop) : Prop := q_W (PP X) 85 (13, [some (.inr (.inr (.inl (some 113)))), some (.inl v1), some (.inl v2), some (.inl v3), some (.inl v4), none], [], S0, s, 0, 0) (q_KI K)
def L_m_meant_58 (X : Nat × (Nat → Int32))  (v1 v2 v3 v4 v5 : Int) (s : qM) (K : Int → qM → Prop) : Prop := q_W (PP X) 85 (58, [some (.inr (.inr (.inl (some 113)))), some (.inl v1), some (.inl v2), some (.inl v3), some (.inl v4), some (.inl v5)], [], S0, s, 0, 0) (q_KI K)
def L_m_meant_112 (X : Nat × (Nat → Int32))  (v1 v2 v3 v4 v5 : Int) (s : qM) (K : Int → qM → Prop) : Prop := q_W (PP X) 85 (112, [some (.inr (.inr (.inl (some 113)))), some (.inl v1), some (.inl v2), some (.inl v3), some (.inl v4), some (.inl v5)], [], S0, s, 0, 0) (q_KI K)
/-- 86: MarktongueModel.nameBehind(I)I -/
def c_m_nameBehind (X : Nat × (Nat → Int32)) (x1 : Int) (s : qM) (K : Int → qM → Prop) : Prop := q_W (PP X) 86 (0, [some (.inr (.inr (.inl (some 113)))), some (.inl x1), none], [], S0, s, 0, 0) (q_KI K)
def L_m_nameBehind_2 (X : Nat × (Nat → Int32))  (v1 v2 : Int) (s : qM) (K : Int → qM → Prop) : Prop := q_W (PP X) 86 (2, [some (.inr (.inr (.inl (some 113)))), some (.inl v1), some (.inl v2)], [], S0, s, 0, 0) (q_KI K)
/-- 87: MarktongueModel.lastOpen(I)I -/
def c_m_lastOpen (X : Nat × (Nat → Int32)) (x1 : Int) (s : qM) (K : Int → qM → Prop) : Prop := q_W (PP X) 87 (0, [some (.inr (.inr (.inl (some 113)))), some (.inl x1), none, none], [], S0, s, 0, 0) (q_KI K)
def L_m_lastOpen_4 (X : Nat × (Nat → Int32))  (v1 v2 v3 : Int) (s : qM) (K : Int → qM → Prop) : Prop := q_W (PP X) 87 (4, [some (.inr (.inr (.inl (some 113)))), some (.inl v1), some (.inl v2), some (.inl v3)], [], S0, s, 0, 0) (q_KI K)
/-- 88: MarktongueModel.closesLink(I)I -/
def c_m_closesLink (X : Nat × (Nat → Int32)) (x1 : Int) (s : qM) (K : Int → qM → Prop) : Prop := q_W (PP X) 88 (0, [some (.inr (.inr (.inl (some 113)))), some (.inl x1), none, none, none, none], [], S0, s, 0, 0) (q_KI K)
def L_m_closesLink_104 (X : Nat × (Nat → Int32))  (v1 v2 v3 v4 v5 : Int) (s : qM) (K : Int → qM → Prop) : Prop := q_W (PP X) 88 (104, [some (.inr (.inr (.inl (some 113)))), some (.inl v1), some (.inl v2), some (.inl v3), some (.inl v4), some (.inl v5)], [], S0, s, 0, 0) (q_KI K)
def L_m_closesLink_175 (X : Nat × (Nat → Int32))  (v1 v2 v3 v5 : Int) (s : qM) (K : Int → qM → Prop) : Prop := q_W (PP X) 88 (175, [some (.inr (.inr (.inl (some 113)))), some (.inl v1), some (.inl v2), some (.inl v3), none, some (.inl v5)], [], S0, s, 0, 0) (q_KI K)
/-- 89: MarktongueModel.fit(II)Z -/
def c_m_fit (X : Nat × (Nat → Int32)) (x1 : Int) (x2 : Int) (s : qM) (K : Int → qM → Prop) : Prop := q_W (PP X) 89 (0, [some (.inr (.inr (.inl (some 113)))), some (.inl x1), some (.inl x2), none], [], S0, s, 0, 0) (q_KI K)
def L_m_fit_41 (X : Nat × (Nat → Int32))  (v1 v2 t0 : Int) (s : qM) (K : Int → qM → Prop) : Prop := q_W (PP X) 89 (41, [some (.inr (.inr (.inl (some 113)))), some (.inl v1), some (.inl v2), none], [(.inl t0)], S0, s, 0, 0) (q_KI K)
/-- 90: MarktongueModel.nearest(II)I -/
def c_m_nearest (X : Nat × (Nat → Int32)) (x1 : Int) (x2 : Int) (s : qM) (K : Int → qM → Prop) : Prop := q_W (PP X) 90 (0, [some (.inr (.inr (.inl (some 113)))), some (.inl x1), some (.inl x2), none, none], [], S0, s, 0, 0) (q_KI K)
def L_m_nearest_5 (X : Nat × (Nat → Int32))  (v2 v3 v4 : Int) (s : qM) (K : Int → qM → Prop) : Prop := q_W (PP X) 90 (5, [some (.inr (.inr (.inl (some 113)))), none, some (.inl v2), some (.inl v3), some (.inl v4)], [], S0, s, 0, 0) (q_KI K)
/-- 91: MarktongueModel.pairsUp(II)V -/
def c_m_pairsUp (X : Nat × (Nat → Int32)) (x1 : Int) (x2 : Int) (s : qM) (K : qM → Prop) : Prop := q_W (PP X) 91 (0, [some (.inr (.inr (.inl (some 113)))), some (.inl x1), some (.inl x2), none, none, none, none, none], [], S0, s, 0, 0) (q_KV K)
def L_m_pairsUp_2 (X : Nat × (Nat → Int32))  (v1 v2 v3 : Int) (s : qM) (K : qM → Prop) : Prop := q_W (PP X) 91 (2, [some (.inr (.inr (.inl (some 113)))), some (.inl v1), some (.inl v2), some (.inl v3), none, none, none, none], [], S0, s, 0, 0) (q_KV K)
def L_m_pairsUp_42 (X : Nat × (Nat → Int32))  (v1 v2 v3 v4 : Int) (s : qM) (K : qM → Prop) : Prop := q_W (PP X) 91 (42, [some (.inr (.inr (.inl (some 113)))), some (.inl v1), some (.inl v2), some (.inl v3), some (.inl v4), none, none, none], [], S0, s, 0, 0) (q_KV K)
def L_m_pairsUp_165 (X : Nat × (Nat → Int32))  (v1 v2 v3 v4 v5 v6 t1 t2 : Int) (s : qM) (K : qM → Prop) : Prop := q_W (PP X) 91 (165, [some (.inr (.inr (.inl (some 113)))), some (.inl v1), some (.inl v2), some (.inl v3), some (.inl v4), some (.inl v5), some (.inl v6), none], [(.inl t2), (.inl t1), (.inr (.inr (.inl (some 150))))], S0, s, 0, 0) (q_KV K)
def L_m_pairsUp_221 (X : Nat × (Nat → Int32))  (v1 v2 v3 v4 v7 : Int) (s : qM) (K : qM → Prop) : Prop := q_W (PP X) 91 (221, [some (.inr (.inr (.inl (some 113)))), some (.inl v1), some (.inl v2), some (.inl v3), some (.inl v4), none, none, some (.inl v7)], [], S0, s, 0, 0) (q_KV K)
/-- 92: MarktongueModel.cuts(I)V -/
def c_m_cuts (X : Nat × (Nat → Int32)) (x1 : Int) (s : qM) (K : qM → Prop) : Prop := q_W (PP X) 92 (0, [some (.inr (.inr (.inl (some 113)))), some (.inl x1), none, none], [], S0, s, 0, 0) (q_KV K)
def L_m_cuts_17 (X : Nat × (Nat → Int32))  (v2 : Int) (s : qM) (K : qM → Prop) : Prop := q_W (PP X) 92 (17, [some (.inr (.inr (.inl (some 113)))), none, some (.inl v2), none], [], S0, s, 0, 0) (q_KV K)
def L_m_cuts_69 (X : Nat × (Nat → Int32))  (v2 v3 : Int) (s : qM) (K : qM → Prop) : Prop := q_W (PP X) 92 (69, [some (.inr (.inr (.inl (some 113)))), none, some (.inl v2), some (.inl v3)], [], S0, s, 0, 0) (q_KV K)
/-- 93: MarktongueModel.cutsCode(I)I -/
def c_m_cutsCode (X : Nat × (Nat → Int32)) (x1 : Int) (s : qM) (K : Int → qM → Prop) : Prop := q_W (PP X) 93 (0, [some (.inr (.inr (.inl (some 113)))), some (.inl x1), none, none, none], [], S0, s, 0, 0) (q_KI K)
def L_m_cutsCode_36 (X : Nat × (Nat → Int32))  (v1 v2 v4 : Int) (s : qM) (K : Int → qM → Prop) : Prop := q_W (PP X) 93 (36, [some (.inr (.inr (.inl (some 113)))), some (.inl v1), some (.inl v2), none, some (.inl v4)], [], S0, s, 0, 0) (q_KI K)
/-- 94: MarktongueModel.addsNode(II)I -/
def c_m_addsNode (X : Nat × (Nat → Int32)) (x1 : Int) (x2 : Int) (s : qM) (K : Int → qM → Prop) : Prop := q_W (PP X) 94 (0, [some (.inr (.inr (.inl (some 113)))), some (.inl x1), some (.inl x2)], [], S0, s, 0, 0) (q_KI K)
/-- 95: MarktongueModel.addsCharacter(I)V -/
def c_m_addsCharacter (X : Nat × (Nat → Int32)) (x1 : Int) (s : qM) (K : qM → Prop) : Prop := q_W (PP X) 95 (0, [some (.inr (.inr (.inl (some 113)))), some (.inl x1), none, none], [], S0, s, 0, 0) (q_KV K)
def L_m_addsCharacter_46 (X : Nat × (Nat → Int32))  (v1 t0 : Int) (s : qM) (K : qM → Prop) : Prop := q_W (PP X) 95 (46, [some (.inr (.inr (.inl (some 113)))), some (.inl v1), none, none], [(.inl t0)], S0, s, 0, 0) (q_KV K)
/-- 96: MarktongueModel.enters(I)V -/
def c_m_enters (X : Nat × (Nat → Int32)) (x1 : Int) (s : qM) (K : qM → Prop) : Prop := q_W (PP X) 96 (0, [some (.inr (.inr (.inl (some 113)))), some (.inl x1)], [], S0, s, 0, 0) (q_KV K)
/-- 97: MarktongueModel.leaves()V -/
def c_m_leaves (X : Nat × (Nat → Int32))  (s : qM) (K : qM → Prop) : Prop := q_W (PP X) 97 (0, [some (.inr (.inr (.inl (some 113))))], [], S0, s, 0, 0) (q_KV K)
/-- 98: MarktongueModel.treesInline(I)V -/
def c_m_treesInline (X : Nat × (Nat → Int32)) (x1 : Int) (s : qM) (K : qM → Prop) : Prop := q_W (PP X) 98 (0, [some (.inr (.inr (.inl (some 113)))), some (.inl x1), none, none, none], [], S0, s, 0, 0) (q_KV K)
def L_m_treesInline_12 (X : Nat × (Nat → Int32))  (v2 : Int) (s : qM) (K : qM → Prop) : Prop := q_W (PP X) 98 (12, [some (.inr (.inr (.inl (some 113)))), none, some (.inl v2), none, none], [], S0, s, 0, 0) (q_KV K)
def L_m_treesInline_91 (X : Nat × (Nat → Int32))  (v2 v4 : Int) (s : qM) (K : qM → Prop) : Prop := q_W (PP X) 98 (91, [some (.inr (.inr (.inl (some 113)))), none, some (.inl v2), none, some (.inl v4)], [], S0, s, 0, 0) (q_KV K)
/-- 99: MarktongueModel.treesRun(I)V -/
def c_m_treesRun (X : Nat × (Nat → Int32)) (x1 : Int) (s : qM) (K : qM → Prop) : Prop := q_W (PP X) 99 (0, [some (.inr (.inr (.inl (some 113)))), some (.inl x1), none], [], S0, s, 0, 0) (q_KV K)
def L_m_treesRun_2 (X : Nat × (Nat → Int32))  (v1 v2 : Int) (s : qM) (K : qM → Prop) : Prop := q_W (PP X) 99 (2, [some (.inr (.inr (.inl (some 113)))), some (.inl v1), some (.inl v2)], [], S0, s, 0, 0) (q_KV K)
def L_m_treesRun_32 (X : Nat × (Nat → Int32))  (v1 v2 : Int) (s : qM) (K : qM → Prop) : Prop := q_W (PP X) 99 (32, [some (.inr (.inr (.inl (some 113)))), some (.inl v1), some (.inl v2)], [], S0, s, 0, 0) (q_KV K)
def L_m_treesRun_61 (X : Nat × (Nat → Int32))  (v1 v2 : Int) (s : qM) (K : qM → Prop) : Prop := q_W (PP X) 99 (61, [some (.inr (.inr (.inl (some 113)))), some (.inl v1), some (.inl v2)], [], S0, s, 0, 0) (q_KV K)
/-- 100: MarktongueModel.trees()V -/
def c_m_trees (X : Nat × (Nat → Int32))  (s : qM) (K : qM → Prop) : Prop := q_W (PP X) 100 (0, [some (.inr (.inr (.inl (some 113)))), none, none], [], S0, s, 0, 0) (q_KV K)
def L_m_trees_16 (X : Nat × (Nat → Int32))  (v1 : Int) (s : qM) (K : qM → Prop) : Prop := q_W (PP X) 100 (16, [some (.inr (.inr (.inl (some 113)))), some (.inl v1), none], [], S0, s, 0, 0) (q_KV K)
def L_m_trees_50 (X : Nat × (Nat → Int32))  (v1 t1 : Int) (s : qM) (K : qM → Prop) : Prop := q_W (PP X) 100 (50, [some (.inr (.inr (.inl (some 113)))), some (.inl v1), none], [(.inl t1), (.inr (.inr (.inl (some 113))))], S0, s, 0, 0) (q_KV K)
def L_m_trees_119 (X : Nat × (Nat → Int32))  (v1 v2 t1 t3 t4 : Int) (s : qM) (K : qM → Prop) : Prop := q_W (PP X) 100 (119, [some (.inr (.inr (.inl (some 113)))), some (.inl v1), some (.inl v2)], [(.inl t4), (.inl t3), (.inr (.inr (.inl (some 113)))), (.inl t1), (.inr (.inr (.inl (some 137))))], S0, s, 0, 0) (q_KV K)
/-- 101: MarktongueModel.nodes()I -/
def c_m_nodes (X : Nat × (Nat → Int32))  (s : qM) (K : Int → qM → Prop) : Prop := q_W (PP X) 101 (0, [some (.inr (.inr (.inl (some 113))))], [], S0, s, 0, 0) (q_KI K)
/-- 102: MarktongueModel.node(II)I -/
def c_m_node (X : Nat × (Nat → Int32)) (x1 : Int) (x2 : Int) (s : qM) (K : Int → qM → Prop) : Prop := q_W (PP X) 102 (0, [some (.inr (.inr (.inl (some 113)))), some (.inl x1), some (.inl x2)], [], S0, s, 0, 0) (q_KI K)
def L_m_node_37 (X : Nat × (Nat → Int32))  (v1 v2 t1 : Int) (s : qM) (K : Int → qM → Prop) : Prop := q_W (PP X) 102 (37, [some (.inr (.inr (.inl (some 113)))), some (.inl v1), some (.inl v2)], [(.inl t1), (.inr (.inr (.inl (some 113))))], S0, s, 0, 0) (q_KI K)
/-- 103: MarktongueModel.child(II)I -/
def c_m_child (X : Nat × (Nat → Int32)) (x1 : Int) (x2 : Int) (s : qM) (K : Int → qM → Prop) : Prop := q_W (PP X) 103 (0, [some (.inr (.inr (.inl (some 113)))), some (.inl x1), some (.inl x2), none, none], [], S0, s, 0, 0) (q_KI K)
def L_m_child_53 (X : Nat × (Nat → Int32))  (v1 v2 v3 v4 : Int) (s : qM) (K : Int → qM → Prop) : Prop := q_W (PP X) 103 (53, [some (.inr (.inr (.inl (some 113)))), some (.inl v1), some (.inl v2), some (.inl v3), some (.inl v4)], [], S0, s, 0, 0) (q_KI K)
def L_m_child_62 (X : Nat × (Nat → Int32))  (v1 v2 v3 v4 : Int) (s : qM) (K : Int → qM → Prop) : Prop := q_W (PP X) 103 (62, [some (.inr (.inr (.inl (some 113)))), some (.inl v1), some (.inl v2), some (.inl v3), some (.inl v4)], [], S0, s, 0, 0) (q_KI K)
/-- 104: MarktongueModel.owner(I)I -/
def c_m_owner (X : Nat × (Nat → Int32)) (x1 : Int) (s : qM) (K : Int → qM → Prop) : Prop := q_W (PP X) 104 (0, [some (.inr (.inr (.inl (some 113)))), some (.inl x1)], [], S0, s, 0, 0) (q_KI K)
/-- 105: MarktongueModel.leads(I)I -/
def c_m_leads (X : Nat × (Nat → Int32)) (x1 : Int) (s : qM) (K : Int → qM → Prop) : Prop := q_W (PP X) 105 (0, [some (.inr (.inr (.inl (some 113)))), some (.inl x1)], [], S0, s, 0, 0) (q_KI K)
/-- 106: MarktongueModel.count(I)I -/
def c_m_count (X : Nat × (Nat → Int32)) (x1 : Int) (s : qM) (K : Int → qM → Prop) : Prop := q_W (PP X) 106 (0, [some (.inr (.inr (.inl (some 113)))), some (.inl x1), none, none], [], S0, s, 0, 0) (q_KI K)
def L_m_count_32 (X : Nat × (Nat → Int32))  (v1 v2 v3 : Int) (s : qM) (K : Int → qM → Prop) : Prop := q_W (PP X) 106 (32, [some (.inr (.inr (.inl (some 113)))), some (.inl v1), some (.inl v2), some (.inl v3)], [], S0, s, 0, 0) (q_KI K)
/-- 107: MarktongueModel.gives(I)V -/
def c_m_gives (X : Nat × (Nat → Int32)) (x1 : Int) (s : qM) (K : qM → Prop) : Prop := q_W (PP X) 107 (0, [some (.inr (.inr (.inl (some 113)))), some (.inl x1)], [], S0, s, 0, 0) (q_KV K)
/-- 108: MarktongueModel.ahead(I)I -/
def c_m_ahead (X : Nat × (Nat → Int32)) (x1 : Int) (s : qM) (K : Int → qM → Prop) : Prop := q_W (PP X) 108 (0, [some (.inr (.inr (.inl (some 113)))), some (.inl x1), none, none], [], S0, s, 0, 0) (q_KI K)
def L_m_ahead_4 (X : Nat × (Nat → Int32))  (v1 v2 v3 : Int) (s : qM) (K : Int → qM → Prop) : Prop := q_W (PP X) 108 (4, [some (.inr (.inr (.inl (some 113)))), some (.inl v1), some (.inl v2), some (.inl v3)], [], S0, s, 0, 0) (q_KI K)
/-- 109: MarktongueModel.givesLines(I)V -/
def c_m_givesLines (X : Nat × (Nat → Int32)) (x1 : Int) (s : qM) (K : qM → Prop) : Prop := q_W (PP X) 109 (0, [some (.inr (.inr (.inl (some 113)))), some (.inl x1), none, none], [], S0, s, 0, 0) (q_KV K)
def L_m_givesLines_2 (X : Nat × (Nat → Int32))  (v1 v2 : Int) (s : qM) (K : qM → Prop) : Prop := q_W (PP X) 109 (2, [some (.inr (.inr (.inl (some 113)))), some (.inl v1), some (.inl v2), none], [], S0, s, 0, 0) (q_KV K)
def L_m_givesLines_27 (X : Nat × (Nat → Int32))  (v1 v2 v3 : Int) (s : qM) (K : qM → Prop) : Prop := q_W (PP X) 109 (27, [some (.inr (.inr (.inl (some 113)))), some (.inl v1), some (.inl v2), some (.inl v3)], [], S0, s, 0, 0) (q_KV K)
/-- 110: MarktongueModel.givesBeginning(II)V -/
def c_m_givesBeginning (X : Nat × (Nat → Int32)) (x1 : Int) (x2 : Int) (s : qM) (K : qM → Prop) : Prop := q_W (PP X) 110 (0, [some (.inr (.inr (.inl (some 113)))), some (.inl x1), some (.inl x2), none, none], [], S0, s, 0, 0) (q_KV K)
def L_m_givesBeginning_132 (X : Nat × (Nat → Int32))  (v1 v4 : Int) (s : qM) (K : qM → Prop) : Prop := q_W (PP X) 110 (132, [some (.inr (.inr (.inl (some 113)))), some (.inl v1), none, none, some (.inl v4)], [], S0, s, 0, 0) (q_KV K)
/-- 111: MarktongueModel.givesEnd(II)V -/
def c_m_givesEnd (X : Nat × (Nat → Int32)) (x1 : Int) (x2 : Int) (s : qM) (K : qM → Prop) : Prop := q_W (PP X) 111 (0, [some (.inr (.inr (.inl (some 113)))), some (.inl x1), some (.inl x2), none], [], S0, s, 0, 0) (q_KV K)
/-- 112: MarktongueModel.prints(I)V -/
def c_m_prints (X : Nat × (Nat → Int32)) (x1 : Int) (s : qM) (K : qM → Prop) : Prop := q_W (PP X) 112 (0, [some (.inr (.inr (.inl (some 113)))), some (.inl x1), none, none], [], S0, s, 0, 0) (q_KV K)
def L_m_prints_13 (X : Nat × (Nat → Int32))  (v1 v2 v3 : Int) (s : qM) (K : qM → Prop) : Prop := q_W (PP X) 112 (13, [some (.inr (.inr (.inl (some 113)))), some (.inl v1), some (.inl v2), some (.inl v3)], [], S0, s, 0, 0) (q_KV K)
def L_m_prints_61 (X : Nat × (Nat → Int32))  (v1 v2 : Int) (s : qM) (K : qM → Prop) : Prop := q_W (PP X) 112 (61, [some (.inr (.inr (.inl (some 113)))), some (.inl v1), some (.inl v2), none], [], S0, s, 0, 0) (q_KV K)
def L_m_prints_21 (X : Nat × (Nat → Int32))  (v1 v2 v3 : Int) (s : qM) (K : qM → Prop) : Prop := q_W (PP X) 112 (21, [some (.inr (.inr (.inl (some 113)))), some (.inl v1), some (.inl v2), some (.inl v3)], [], S0, s, 0, 0) (q_KV K)
/-- 113: MarktongueModel.print(I)I -/
def c_m_print (X : Nat × (Nat → Int32)) (x1 : Int) (s : qM) (K : Int → qM → Prop) : Prop := q_W (PP X) 113 (0, [some (.inr (.inr (.inl (some 113)))), some (.inl x1)], [], S0, s, 0, 0) (q_KI K)
/-- 114: MarktongueModel.printed(II)I -/
def c_m_printed (X : Nat × (Nat → Int32)) (x1 : Int) (x2 : Int) (s : qM) (K : Int → qM → Prop) : Prop := q_W (PP X) 114 (0, [some (.inr (.inr (.inl (some 113)))), some (.inl x1), some (.inl x2)], [], S0, s, 0, 0) (q_KI K)
def L_m_printed_15 (X : Nat × (Nat → Int32))  (v1 v2 t1 : Int) (s : qM) (K : Int → qM → Prop) : Prop := q_W (PP X) 114 (15, [some (.inr (.inr (.inl (some 113)))), some (.inl v1), some (.inl v2)], [(.inl t1), (.inr (.inr (.inl (some 113))))], S0, s, 0, 0) (q_KI K)
/-- 115: MarktongueModel.isGap(I)Z -/
def c_m_isGap (X : Nat × (Nat → Int32)) (x1 : Int) (s : qM) (K : Int → qM → Prop) : Prop := q_W (PP X) 115 (0, [some (.inr (.inr (.inl (some 113)))), some (.inl x1)], [], S0, s, 0, 0) (q_KI K)
/-- 116: MarktongueModel.stays(I)Z -/
def c_m_stays (X : Nat × (Nat → Int32)) (x1 : Int) (s : qM) (K : Int → qM → Prop) : Prop := q_W (PP X) 116 (0, [some (.inr (.inr (.inl (some 113)))), some (.inl x1), none, none], [], S0, s, 0, 0) (q_KI K)
def L_m_stays_16 (X : Nat × (Nat → Int32))  (v1 v2 v3 : Int) (s : qM) (K : Int → qM → Prop) : Prop := q_W (PP X) 116 (16, [some (.inr (.inr (.inl (some 113)))), some (.inl v1), some (.inl v2), some (.inl v3)], [], S0, s, 0, 0) (q_KI K)
/-- 117: MarktongueModel.format()I -/
def c_m_format (X : Nat × (Nat → Int32))  (s : qM) (K : Int → qM → Prop) : Prop := q_W (PP X) 117 (0, [some (.inr (.inr (.inl (some 113)))), none, none, none, none, none, none], [], S0, s, 0, 0) (q_KI K)
def L_m_format_21 (X : Nat × (Nat → Int32))  (v1 v2 v3 v4 : Int) (s : qM) (K : Int → qM → Prop) : Prop := q_W (PP X) 117 (21, [some (.inr (.inr (.inl (some 113)))), some (.inl v1), some (.inl v2), some (.inl v3), some (.inl v4), none, none], [], S0, s, 0, 0) (q_KI K)
def L_m_format_151 (X : Nat × (Nat → Int32))  (v1 v2 v4 : Int) (s : qM) (K : Int → qM → Prop) : Prop := q_W (PP X) 117 (151, [some (.inr (.inr (.inl (some 113)))), some (.inl v1), some (.inl v2), none, some (.inl v4), none, none], [], S0, s, 0, 0) (q_KI K)
def L_m_format_108 (X : Nat × (Nat → Int32))  (v1 v2 v3 v4 v5 v6 : Int) (s : qM) (K : Int → qM → Prop) : Prop := q_W (PP X) 117 (108, [some (.inr (.inr (.inl (some 113)))), some (.inl v1), some (.inl v2), some (.inl v3), some (.inl v4), some (.inl v5), some (.inl v6)], [], S0, s, 0, 0) (q_KI K)
/-- 118: MarktongueModel.keep(I)I -/
def c_m_keep (X : Nat × (Nat → Int32)) (x1 : Int) (s : qM) (K : Int → qM → Prop) : Prop := q_W (PP X) 118 (0, [some (.inr (.inr (.inl (some 113)))), some (.inl x1), none, none], [], S0, s, 0, 0) (q_KI K)
def L_m_keep_42 (X : Nat × (Nat → Int32))  (v1 v2 v3 : Int) (s : qM) (K : Int → qM → Prop) : Prop := q_W (PP X) 118 (42, [some (.inr (.inr (.inl (some 113)))), some (.inl v1), some (.inl v2), some (.inl v3)], [], S0, s, 0, 0) (q_KI K)
/-- 119: MarktongueModel.load(I)I -/
def c_m_load (X : Nat × (Nat → Int32)) (x1 : Int) (s : qM) (K : Int → qM → Prop) : Prop := q_W (PP X) 119 (0, [some (.inr (.inr (.inl (some 113)))), some (.inl x1), none], [], S0, s, 0, 0) (q_KI K)
def L_m_load_35 (X : Nat × (Nat → Int32))  (v1 v2 : Int) (s : qM) (K : Int → qM → Prop) : Prop := q_W (PP X) 119 (35, [some (.inr (.inr (.inl (some 113)))), some (.inl v1), some (.inl v2)], [], S0, s, 0, 0) (q_KI K)
/-- 120: MarktongueModel.splits(II)V -/
def c_m_splits (X : Nat × (Nat → Int32)) (x1 : Int) (x2 : Int) (s : qM) (K : qM → Prop) : Prop := q_W (PP X) 120 (0, [some (.inr (.inr (.inl (some 113)))), some (.inl x1), some (.inl x2), none, none], [], S0, s, 0, 0) (q_KV K)
def L_m_splits_20 (X : Nat × (Nat → Int32))  (v1 v2 v3 v4 : Int) (s : qM) (K : qM → Prop) : Prop := q_W (PP X) 120 (20, [some (.inr (.inr (.inl (some 113)))), some (.inl v1), some (.inl v2), some (.inl v3), some (.inl v4)], [], S0, s, 0, 0) (q_KV K)
/-- 121: MarktongueModel.isSameLine(II)Z -/
def c_m_isSameLine (X : Nat × (Nat → Int32)) (x1 : Int) (x2 : Int) (s : qM) (K : Int → qM → Prop) : Prop := q_W (PP X) 121 (0, [some (.inr (.inr (.inl (some 113)))), some (.inl x1), some (.inl x2), none, none], [], S0, s, 0, 0) (q_KI K)
def L_m_isSameLine_38 (X : Nat × (Nat → Int32))  (v1 v2 v3 v4 : Int) (s : qM) (K : Int → qM → Prop) : Prop := q_W (PP X) 121 (38, [some (.inr (.inr (.inl (some 113)))), some (.inl v1), some (.inl v2), some (.inl v3), some (.inl v4)], [], S0, s, 0, 0) (q_KI K)
/-- 122: MarktongueModel.takesTogether(I)V -/
def c_m_takesTogether (X : Nat × (Nat → Int32)) (x1 : Int) (s : qM) (K : qM → Prop) : Prop := q_W (PP X) 122 (0, [some (.inr (.inr (.inl (some 113)))), some (.inl x1), none, none, none, none, none], [], S0, s, 0, 0) (q_KV K)
def L_m_takesTogether_17 (X : Nat × (Nat → Int32))  (v1 v2 v3 v4 : Int) (s : qM) (K : qM → Prop) : Prop := q_W (PP X) 122 (17, [some (.inr (.inr (.inl (some 113)))), some (.inl v1), some (.inl v2), some (.inl v3), some (.inl v4), none, none], [], S0, s, 0, 0) (q_KV K)
def L_m_takesTogether_178 (X : Nat × (Nat → Int32))  (v1 v2 v3 v4 v5 v6 : Int) (s : qM) (K : qM → Prop) : Prop := q_W (PP X) 122 (178, [some (.inr (.inr (.inl (some 113)))), some (.inl v1), some (.inl v2), some (.inl v3), some (.inl v4), some (.inl v5), some (.inl v6)], [], S0, s, 0, 0) (q_KV K)
def L_m_takesTogether_25 (X : Nat × (Nat → Int32))  (v1 v2 v3 v4 v5 : Int) (s : qM) (K : qM → Prop) : Prop := q_W (PP X) 122 (25, [some (.inr (.inr (.inl (some 113)))), some (.inl v1), some (.inl v2), some (.inl v3), some (.inl v4), some (.inl v5), none], [], S0, s, 0, 0) (q_KV K)
def L_m_takesTogether_206 (X : Nat × (Nat → Int32))  (v1 v2 v3 v4 v5 : Int) (s : qM) (K : qM → Prop) : Prop := q_W (PP X) 122 (206, [some (.inr (.inr (.inl (some 113)))), some (.inl v1), some (.inl v2), some (.inl v3), some (.inl v4), some (.inl v5), none], [], S0, s, 0, 0) (q_KV K)
/-- 123: MarktongueModel.isSamePart(IIIIII)Z -/
def c_m_isSamePart (X : Nat × (Nat → Int32)) (x1 : Int) (x2 : Int) (x3 : Int) (x4 : Int) (x5 : Int) (x6 : Int) (s : qM) (K : Int → qM → Prop) : Prop := q_W (PP X) 123 (0, [some (.inr (.inr (.inl (some 113)))), some (.inl x1), some (.inl x2), some (.inl x3), some (.inl x4), some (.inl x5), some (.inl x6), none, none], [], S0, s, 0, 0) (q_KI K)
def L_m_isSamePart_21 (X : Nat × (Nat → Int32))  (v1 v2 v3 v4 v5 v7 v8 : Int) (s : qM) (K : Int → qM → Prop) : Prop := q_W (PP X) 123 (21, [some (.inr (.inr (.inl (some 113)))), some (.inl v1), some (.inl v2), some (.inl v3), some (.inl v4), some (.inl v5), none, some (.inl v7), some (.inl v8)], [], S0, s, 0, 0) (q_KI K)
/-- 124: MarktongueModel.takesLines(III)V -/
def c_m_takesLines (X : Nat × (Nat → Int32)) (x1 : Int) (x2 : Int) (x3 : Int) (s : qM) (K : qM → Prop) : Prop := q_W (PP X) 124 (0, [some (.inr (.inr (.inl (some 113)))), some (.inl x1), some (.inl x2), some (.inl x3), none, none], [], S0, s, 0, 0) (q_KV K)
def L_m_takesLines_9 (X : Nat × (Nat → Int32))  (v1 v3 v4 : Int) (s : qM) (K : qM → Prop) : Prop := q_W (PP X) 124 (9, [some (.inr (.inr (.inl (some 113)))), some (.inl v1), none, some (.inl v3), some (.inl v4), none], [], S0, s, 0, 0) (q_KV K)
def L_m_takesLines_63 (X : Nat × (Nat → Int32))  (v1 v3 v4 v5 : Int) (s : qM) (K : qM → Prop) : Prop := q_W (PP X) 124 (63, [some (.inr (.inr (.inl (some 113)))), some (.inl v1), none, some (.inl v3), some (.inl v4), some (.inl v5)], [], S0, s, 0, 0) (q_KV K)
/-- 125: MarktongueModel.takesPart(IIIIII)Z -/
def c_m_takesPart (X : Nat × (Nat → Int32)) (x1 : Int) (x2 : Int) (x3 : Int) (x4 : Int) (x5 : Int) (x6 : Int) (s : qM) (K : Int → qM → Prop) : Prop := q_W (PP X) 125 (0, [some (.inr (.inr (.inl (some 113)))), some (.inl x1), some (.inl x2), some (.inl x3), some (.inl x4), some (.inl x5), some (.inl x6), none], [], S0, s, 0, 0) (q_KI K)
/-- 126: MarktongueModel.merge()I -/
def c_m_merge (X : Nat × (Nat → Int32))  (s : qM) (K : Int → qM → Prop) : Prop := q_W (PP X) 126 (0, [some (.inr (.inr (.inl (some 113)))), none, none, none, none, none, none, none, none], [], S0, s, 0, 0) (q_KI K)
def L_m_merge_7 (X : Nat × (Nat → Int32))  (v1 : Int) (s : qM) (K : Int → qM → Prop) : Prop := q_W (PP X) 126 (7, [some (.inr (.inr (.inl (some 113)))), some (.inl v1), none, none, none, none, none, none, none], [], S0, s, 0, 0) (q_KI K)
def L_m_merge_131 (X : Nat × (Nat → Int32))  (v1 v2 v3 v4 v5 : Int) (s : qM) (K : Int → qM → Prop) : Prop := q_W (PP X) 126 (131, [some (.inr (.inr (.inl (some 113)))), some (.inl v1), some (.inl v2), some (.inl v3), some (.inl v4), some (.inl v5), none, none, none], [], S0, s, 0, 0) (q_KI K)
def L_m_merge_334 (X : Nat × (Nat → Int32))  (v5 : Int) (s : qM) (K : Int → qM → Prop) : Prop := q_W (PP X) 126 (334, [some (.inr (.inr (.inl (some 113)))), none, none, none, none, some (.inl v5), none, none, none], [], S0, s, 0, 0) (q_KI K)
def L_m_merge_158 (X : Nat × (Nat → Int32))  (v1 v2 v3 v4 v5 t0 : Int) (s : qM) (K : Int → qM → Prop) : Prop := q_W (PP X) 126 (158, [some (.inr (.inr (.inl (some 113)))), some (.inl v1), some (.inl v2), some (.inl v3), some (.inl v4), some (.inl v5), none, none, none], [(.inl t0)], S0, s, 0, 0) (q_KI K)
def L_m_merge_212 (X : Nat × (Nat → Int32))  (v1 v2 v3 v4 v5 v6 t0 : Int) (s : qM) (K : Int → qM → Prop) : Prop := q_W (PP X) 126 (212, [some (.inr (.inr (.inl (some 113)))), some (.inl v1), some (.inl v2), some (.inl v3), some (.inl v4), some (.inl v5), some (.inl v6), none, none], [(.inl t0)], S0, s, 0, 0) (q_KI K)
def L_m_merge_264 (X : Nat × (Nat → Int32))  (v5 v6 v7 v8 t0 t1 : Int) (s : qM) (K : Int → qM → Prop) : Prop := q_W (PP X) 126 (264, [some (.inr (.inr (.inl (some 113)))), none, none, none, none, some (.inl v5), some (.inl v6), some (.inl v7), some (.inl v8)], [(.inl t1), (.inl t0)], S0, s, 0, 0) (q_KI K)
/-- 128: Marktongue$BlockReader.start()V -/
def c_Rd_start (X : Nat × (Nat → Int32))  (s : qM) (K : qM → Prop) : Prop := q_W (PP X) 128 (0, [some (.inr (.inr (.inl (some 43))))], [], S0, s, 0, 0) (q_KV K)
/-- 129: Marktongue$BlockReader.read(I)V -/
def c_Rd_read (X : Nat × (Nat → Int32)) (x1 : Int) (s : qM) (K : qM → Prop) : Prop := q_W (PP X) 129 (0, [some (.inr (.inr (.inl (some 43)))), some (.inl x1), none, none, none], [], S0, s, 0, 0) (q_KV K)
def L_Rd_read_56 (X : Nat × (Nat → Int32))  (v1 t0 : Int) (s : qM) (K : qM → Prop) : Prop := q_W (PP X) 129 (56, [some (.inr (.inr (.inl (some 43)))), some (.inl v1), none, none, none], [(.inl t0)], S0, s, 0, 0) (q_KV K)
def L_Rd_read_129 (X : Nat × (Nat → Int32))  (v1 v3 t0 : Int) (s : qM) (K : qM → Prop) : Prop := q_W (PP X) 129 (129, [some (.inr (.inr (.inl (some 43)))), some (.inl v1), none, some (.inl v3), none], [(.inl t0)], S0, s, 0, 0) (q_KV K)
/-- 130: Marktongue$BlockReader.goOn()V -/
def c_Rd_goOn (X : Nat × (Nat → Int32))  (s : qM) (K : qM → Prop) : Prop := q_W (PP X) 130 (0, [some (.inr (.inr (.inl (some 43)))), none, none], [], S0, s, 0, 0) (q_KV K)
def L_Rd_goOn_21 (X : Nat × (Nat → Int32))  (v1 v2 : Int) (s : qM) (K : qM → Prop) : Prop := q_W (PP X) 130 (21, [some (.inr (.inr (.inl (some 43)))), some (.inl v1), some (.inl v2)], [], S0, s, 0, 0) (q_KV K)
/-- 131: Marktongue$BlockReader.goesOn(I)Z -/
def c_Rd_goesOn (X : Nat × (Nat → Int32)) (x1 : Int) (s : qM) (K : Int → qM → Prop) : Prop := q_W (PP X) 131 (0, [some (.inr (.inr (.inl (some 43)))), some (.inl x1), none, none, none, none], [], S0, s, 0, 0) (q_KI K)
def L_Rd_goesOn_103 (X : Nat × (Nat → Int32))  (v1 v3 v4 t0 : Int) (s : qM) (K : Int → qM → Prop) : Prop := q_W (PP X) 131 (103, [some (.inr (.inr (.inl (some 43)))), some (.inl v1), none, some (.inl v3), some (.inl v4), none], [(.inl t0)], S0, s, 0, 0) (q_KI K)
/-- 132: Marktongue$BlockReader.readInFence(I)I -/
def c_Rd_readInFence (X : Nat × (Nat → Int32)) (x1 : Int) (s : qM) (K : Int → qM → Prop) : Prop := q_W (PP X) 132 (0, [some (.inr (.inr (.inl (some 43)))), some (.inl x1)], [], S0, s, 0, 0) (q_KI K)
/-- 133: Marktongue$BlockReader.putContainersIn()V -/
def c_Rd_putContainersIn (X : Nat × (Nat → Int32))  (s : qM) (K : qM → Prop) : Prop := q_W (PP X) 133 (0, [some (.inr (.inr (.inl (some 43)))), none, none, none], [], S0, s, 0, 0) (q_KV K)
def L_Rd_putContainersIn_2 (X : Nat × (Nat → Int32))  (v1 : Int) (s : qM) (K : qM → Prop) : Prop := q_W (PP X) 133 (2, [some (.inr (.inr (.inl (some 43)))), some (.inl v1), none, none], [], S0, s, 0, 0) (q_KV K)
def L_Rd_putContainersIn_53 (X : Nat × (Nat → Int32))  (v1 v2 t0 : Int) (s : qM) (K : qM → Prop) : Prop := q_W (PP X) 133 (53, [some (.inr (.inr (.inl (some 43)))), some (.inl v1), some (.inl v2), none], [(.inl t0)], S0, s, 0, 0) (q_KV K)
/-- 134: Marktongue$BlockReader.markerSize()I -/
def c_Rd_markerSize (X : Nat × (Nat → Int32))  (s : qM) (K : Int → qM → Prop) : Prop := q_W (PP X) 134 (0, [some (.inr (.inr (.inl (some 43)))), none, none], [], S0, s, 0, 0) (q_KI K)
/-- 135: Marktongue$BlockReader.putItem(I)I -/
def c_Rd_putItem (X : Nat × (Nat → Int32)) (x1 : Int) (s : qM) (K : Int → qM → Prop) : Prop := q_W (PP X) 135 (0, [some (.inr (.inr (.inl (some 43)))), some (.inl x1), none, none, none], [], S0, s, 0, 0) (q_KI K)
def L_Rd_putItem_15 (X : Nat × (Nat → Int32))  (v1 t0 : Int) (s : qM) (K : Int → qM → Prop) : Prop := q_W (PP X) 135 (15, [some (.inr (.inr (.inl (some 43)))), some (.inl v1), none, none, none], [(.inl t0)], S0, s, 0, 0) (q_KI K)
def L_Rd_putItem_52 (X : Nat × (Nat → Int32))  (v1 v2 : Int) (s : qM) (K : Int → qM → Prop) : Prop := q_W (PP X) 135 (52, [some (.inr (.inr (.inl (some 43)))), some (.inl v1), some (.inl v2), none, none], [], S0, s, 0, 0) (q_KI K)
/-- 136: Marktongue$BlockReader.readBlank()I -/
def c_Rd_readBlank (X : Nat × (Nat → Int32))  (s : qM) (K : Int → qM → Prop) : Prop := q_W (PP X) 136 (0, [some (.inr (.inr (.inl (some 43)))), none], [], S0, s, 0, 0) (q_KI K)
/-- 137: Marktongue$BlockReader.readLeaf(I)I -/
def c_Rd_readLeaf (X : Nat × (Nat → Int32)) (x1 : Int) (s : qM) (K : Int → qM → Prop) : Prop := q_W (PP X) 137 (0, [some (.inr (.inr (.inl (some 43)))), some (.inl x1), none, none, none, none, none], [], S0, s, 0, 0) (q_KI K)
def L_Rd_readLeaf_68 (X : Nat × (Nat → Int32))  (v1 : Int) (s : qM) (K : Int → qM → Prop) : Prop := q_W (PP X) 137 (68, [some (.inr (.inr (.inl (some 43)))), some (.inl v1), none, none, none, none, none], [], S0, s, 0, 0) (q_KI K)
/-- 138: Marktongue$BlockReader.putHeading(II)I -/
def c_Rd_putHeading (X : Nat × (Nat → Int32)) (x1 : Int) (x2 : Int) (s : qM) (K : Int → qM → Prop) : Prop := q_W (PP X) 138 (0, [some (.inr (.inr (.inl (some 43)))), some (.inl x1), some (.inl x2), none], [], S0, s, 0, 0) (q_KI K)
/-- 139: Marktongue$BlockReader.putLeaf(II)I -/
def c_Rd_putLeaf (X : Nat × (Nat → Int32)) (x1 : Int) (x2 : Int) (s : qM) (K : Int → qM → Prop) : Prop := q_W (PP X) 139 (0, [some (.inr (.inr (.inl (some 43)))), some (.inl x1), some (.inl x2), none], [], S0, s, 0, 0) (q_KI K)
/-- 140: Marktongue$BlockReader.headingLevel()I -/
def c_Rd_headingLevel (X : Nat × (Nat → Int32))  (s : qM) (K : Int → qM → Prop) : Prop := q_W (PP X) 140 (0, [some (.inr (.inr (.inl (some 43)))), none, none], [], S0, s, 0, 0) (q_KI K)
def L_Rd_headingLevel_4 (X : Nat × (Nat → Int32))  (v1 v2 : Int) (s : qM) (K : Int → qM → Prop) : Prop := q_W (PP X) 140 (4, [some (.inr (.inr (.inl (some 43)))), some (.inl v1), some (.inl v2)], [], S0, s, 0, 0) (q_KI K)
/-- 141: Marktongue$BlockReader.isFenceMark()Z -/
def c_Rd_isFenceMark (X : Nat × (Nat → Int32))  (s : qM) (K : Int → qM → Prop) : Prop := q_W (PP X) 141 (0, [some (.inr (.inr (.inl (some 43))))], [], S0, s, 0, 0) (q_KI K)
/-- 142: Marktongue$BlockReader.definedName()J -/
def c_Rd_definedName (X : Nat × (Nat → Int32))  (s : qM) (K : Int → qM → Prop) : Prop := q_W (PP X) 142 (0, [some (.inr (.inr (.inl (some 43)))), none, none, none, none, none], [], S0, s, 0, 0) (q_KL K)
/-- 143: Marktongue$BlockReader.look(I)I -/
def c_Rd_look (X : Nat × (Nat → Int32)) (x1 : Int) (s : qM) (K : Int → qM → Prop) : Prop := q_W (PP X) 143 (0, [some (.inr (.inr (.inl (some 43)))), some (.inl x1)], [], S0, s, 0, 0) (q_KI K)
/-- 144: Marktongue$BlockReader.takeOff(II)V -/
def c_Rd_takeOff (X : Nat × (Nat → Int32)) (x1 : Int) (x2 : Int) (s : qM) (K : qM → Prop) : Prop := q_W (PP X) 144 (0, [some (.inr (.inr (.inl (some 43)))), some (.inl x1), some (.inl x2), none], [], S0, s, 0, 0) (q_KV K)
def L_Rd_takeOff_2 (X : Nat × (Nat → Int32))  (v1 v2 v3 : Int) (s : qM) (K : qM → Prop) : Prop := q_W (PP X) 144 (2, [some (.inr (.inr (.inl (some 43)))), some (.inl v1), some (.inl v2), some (.inl v3)], [], S0, s, 0, 0) (q_KV K)
/-- 145: Marktongue$BlockReader.ownRest(II)V -/
def c_Rd_ownRest (X : Nat × (Nat → Int32)) (x1 : Int) (x2 : Int) (s : qM) (K : qM → Prop) : Prop := q_W (PP X) 145 (0, [some (.inr (.inr (.inl (some 43)))), some (.inl x1), some (.inl x2), none], [], S0, s, 0, 0) (q_KV K)
def L_Rd_ownRest_14 (X : Nat × (Nat → Int32))  (v2 v3 : Int) (s : qM) (K : qM → Prop) : Prop := q_W (PP X) 145 (14, [some (.inr (.inr (.inl (some 43)))), none, some (.inl v2), some (.inl v3)], [], S0, s, 0, 0) (q_KV K)
/-- 147: Marktongue$Blocks.start(II)V -/
def c_Blocks_start (X : Nat × (Nat → Int32)) (x1 : Int) (x2 : Int) (s : qM) (K : qM → Prop) : Prop := q_W (PP X) 147 (0, [some (.inr (.inr (.inl (some 12)))), some (.inl x1), some (.inl x2)], [], S0, s, 0, 0) (q_KV K)
/-- 148: Marktongue$Blocks.add(IIZ)I -/
def c_Blocks_add (X : Nat × (Nat → Int32)) (x1 : Int) (x2 : Int) (x3 : Int) (s : qM) (K : Int → qM → Prop) : Prop := q_W (PP X) 148 (0, [some (.inr (.inr (.inl (some 12)))), some (.inl x1), some (.inl x2), some (.inl x3), none, none], [], S0, s, 0, 0) (q_KI K)
def L_Blocks_add_65 (X : Nat × (Nat → Int32))  (v1 v2 : Int) (s : qM) (K : Int → qM → Prop) : Prop := q_W (PP X) 148 (65, [some (.inr (.inr (.inl (some 12)))), some (.inl v1), some (.inl v2), none, none, none], [], S0, s, 0, 0) (q_KI K)
/-- 149: Marktongue$Blocks.close(I)V -/
def c_Blocks_close (X : Nat × (Nat → Int32)) (x1 : Int) (s : qM) (K : qM → Prop) : Prop := q_W (PP X) 149 (0, [some (.inr (.inr (.inl (some 12)))), some (.inl x1)], [], S0, s, 0, 0) (q_KV K)
/-- 150: Marktongue$Blocks.openIn(I)I -/
def c_Blocks_openIn (X : Nat × (Nat → Int32)) (x1 : Int) (s : qM) (K : Int → qM → Prop) : Prop := q_W (PP X) 150 (0, [some (.inr (.inr (.inl (some 12)))), some (.inl x1)], [], S0, s, 0, 0) (q_KI K)
/-- 151: Marktongue$Blocks.innermostOpen()I -/
def c_Blocks_innermostOpen (X : Nat × (Nat → Int32))  (s : qM) (K : Int → qM → Prop) : Prop := q_W (PP X) 151 (0, [some (.inr (.inr (.inl (some 12)))), none, none], [], S0, s, 0, 0) (q_KI K)
def L_Blocks_innermostOpen_4 (X : Nat × (Nat → Int32))  (v1 v2 : Int) (s : qM) (K : Int → qM → Prop) : Prop := q_W (PP X) 151 (4, [some (.inr (.inr (.inl (some 12)))), some (.inl v1), some (.inl v2)], [], S0, s, 0, 0) (q_KI K)
/-- 152: Marktongue$Blocks.size()I -/
def c_Blocks_size (X : Nat × (Nat → Int32))  (s : qM) (K : Int → qM → Prop) : Prop := q_W (PP X) 152 (0, [some (.inr (.inr (.inl (some 12))))], [], S0, s, 0, 0) (q_KI K)
/-- 153: Marktongue$Blocks.kindOf(I)I -/
def c_Blocks_kindOf (X : Nat × (Nat → Int32)) (x1 : Int) (s : qM) (K : Int → qM → Prop) : Prop := q_W (PP X) 153 (0, [some (.inr (.inr (.inl (some 12)))), some (.inl x1)], [], S0, s, 0, 0) (q_KI K)
/-- 154: Marktongue$Blocks.parentOf(I)I -/
def c_Blocks_parentOf (X : Nat × (Nat → Int32)) (x1 : Int) (s : qM) (K : Int → qM → Prop) : Prop := q_W (PP X) 154 (0, [some (.inr (.inr (.inl (some 12)))), some (.inl x1)], [], S0, s, 0, 0) (q_KI K)
/-- 155: Marktongue$Blocks.isContainer(I)Z -/
def c_Blocks_isContainer (X : Nat × (Nat → Int32)) (x1 : Int) (s : qM) (K : Int → qM → Prop) : Prop := q_W (PP X) 155 (0, [some (.inr (.inr (.inl (some 12)))), some (.inl x1), none], [], S0, s, 0, 0) (q_KI K)
/-- 156: Marktongue$Blocks.measureOf(I)I -/
def c_Blocks_measureOf (X : Nat × (Nat → Int32)) (x1 : Int) (s : qM) (K : Int → qM → Prop) : Prop := q_W (PP X) 156 (0, [some (.inr (.inr (.inl (some 12)))), some (.inl x1)], [], S0, s, 0, 0) (q_KI K)
/-- 157: Marktongue$Blocks.measure(II)V -/
def c_Blocks_measure (X : Nat × (Nat → Int32)) (x1 : Int) (x2 : Int) (s : qM) (K : qM → Prop) : Prop := q_W (PP X) 157 (0, [some (.inr (.inr (.inl (some 12)))), some (.inl x1), some (.inl x2)], [], S0, s, 0, 0) (q_KV K)
/-- 158: Marktongue$Blocks.markerOf(I)I -/
def c_Blocks_markerOf (X : Nat × (Nat → Int32)) (x1 : Int) (s : qM) (K : Int → qM → Prop) : Prop := q_W (PP X) 158 (0, [some (.inr (.inr (.inl (some 12)))), some (.inl x1)], [], S0, s, 0, 0) (q_KI K)
/-- 159: Marktongue$Blocks.mark(II)V -/
def c_Blocks_mark (X : Nat × (Nat → Int32)) (x1 : Int) (x2 : Int) (s : qM) (K : qM → Prop) : Prop := q_W (PP X) 159 (0, [some (.inr (.inr (.inl (some 12)))), some (.inl x1), some (.inl x2)], [], S0, s, 0, 0) (q_KV K)
/-- 160: Marktongue$Blocks.firstLineOf(I)I -/
def c_Blocks_firstLineOf (X : Nat × (Nat → Int32)) (x1 : Int) (s : qM) (K : Int → qM → Prop) : Prop := q_W (PP X) 160 (0, [some (.inr (.inr (.inl (some 12)))), some (.inl x1)], [], S0, s, 0, 0) (q_KI K)
/-- 161: Marktongue$Blocks.linesOf(I)I -/
def c_Blocks_linesOf (X : Nat × (Nat → Int32)) (x1 : Int) (s : qM) (K : Int → qM → Prop) : Prop := q_W (PP X) 161 (0, [some (.inr (.inr (.inl (some 12)))), some (.inl x1)], [], S0, s, 0, 0) (q_KI K)
/-- 162: Marktongue$Blocks.beginAt(II)V -/
def c_Blocks_beginAt (X : Nat × (Nat → Int32)) (x1 : Int) (x2 : Int) (s : qM) (K : qM → Prop) : Prop := q_W (PP X) 162 (0, [some (.inr (.inr (.inl (some 12)))), some (.inl x1), some (.inl x2)], [], S0, s, 0, 0) (q_KV K)
/-- 163: Marktongue$Blocks.addLine(I)V -/
def c_Blocks_addLine (X : Nat × (Nat → Int32)) (x1 : Int) (s : qM) (K : qM → Prop) : Prop := q_W (PP X) 163 (0, [some (.inr (.inr (.inl (some 12)))), some (.inl x1)], [], S0, s, 0, 0) (q_KV K)
/-- 164: Marktongue$Blocks.contentBegin(I)I -/
def c_Blocks_contentBegin (X : Nat × (Nat → Int32)) (x1 : Int) (s : qM) (K : Int → qM → Prop) : Prop := q_W (PP X) 164 (0, [some (.inr (.inr (.inl (some 12)))), some (.inl x1)], [], S0, s, 0, 0) (q_KI K)
/-- 165: Marktongue$Blocks.beginContent(II)V -/
def c_Blocks_beginContent (X : Nat × (Nat → Int32)) (x1 : Int) (x2 : Int) (s : qM) (K : qM → Prop) : Prop := q_W (PP X) 165 (0, [some (.inr (.inr (.inl (some 12)))), some (.inl x1), some (.inl x2)], [], S0, s, 0, 0) (q_KV K)
/-- 166: Marktongue$Blocks.ownerOfLine(I)I -/
def c_Blocks_ownerOfLine (X : Nat × (Nat → Int32)) (x1 : Int) (s : qM) (K : Int → qM → Prop) : Prop := q_W (PP X) 166 (0, [some (.inr (.inr (.inl (some 12)))), some (.inl x1)], [], S0, s, 0, 0) (q_KI K)
/-- 167: Marktongue$Blocks.ownLine(II)V -/
def c_Blocks_ownLine (X : Nat × (Nat → Int32)) (x1 : Int) (x2 : Int) (s : qM) (K : qM → Prop) : Prop := q_W (PP X) 167 (0, [some (.inr (.inr (.inl (some 12)))), some (.inl x1), some (.inl x2)], [], S0, s, 0, 0) (q_KV K)
/-- 168: Marktongue$Blocks.ownerAt(I)I -/
def c_Blocks_ownerAt (X : Nat × (Nat → Int32)) (x1 : Int) (s : qM) (K : Int → qM → Prop) : Prop := q_W (PP X) 168 (0, [some (.inr (.inr (.inl (some 12)))), some (.inl x1)], [], S0, s, 0, 0) (q_KI K)
/-- 169: Marktongue$Blocks.own(II)V -/
def c_Blocks_own (X : Nat × (Nat → Int32)) (x1 : Int) (x2 : Int) (s : qM) (K : qM → Prop) : Prop := q_W (PP X) 169 (0, [some (.inr (.inr (.inl (some 12)))), some (.inl x1), some (.inl x2)], [], S0, s, 0, 0) (q_KV K)
/-- 170: Marktongue$Blocks.define(JI)V -/
def c_Blocks_define (X : Nat × (Nat → Int32)) (x1 : Int) (x2 : Int) (s : qM) (K : qM → Prop) : Prop := q_W (PP X) 170 (0, [some (.inr (.inr (.inl (some 12)))), some (.inr (.inl x1)), none, some (.inl x2)], [], S0, s, 0, 0) (q_KV K)
/-- 171: Marktongue$Blocks.anchor(JI)V -/
def c_Blocks_anchor (X : Nat × (Nat → Int32)) (x1 : Int) (x2 : Int) (s : qM) (K : qM → Prop) : Prop := q_W (PP X) 171 (0, [some (.inr (.inr (.inl (some 12)))), some (.inr (.inl x1)), none, some (.inl x2)], [], S0, s, 0, 0) (q_KV K)
/-- 172: Marktongue$Blocks.linkSign(J)I -/
def c_Blocks_linkSign (X : Nat × (Nat → Int32)) (x1 : Int) (s : qM) (K : Int → qM → Prop) : Prop := q_W (PP X) 172 (0, [some (.inr (.inr (.inl (some 12)))), some (.inr (.inl x1)), none, none, none], [], S0, s, 0, 0) (q_KI K)
/-- 173: Marktongue$Blocks.linkedBlock(I)I -/
def c_Blocks_linkedBlock (X : Nat × (Nat → Int32)) (x1 : Int) (s : qM) (K : Int → qM → Prop) : Prop := q_W (PP X) 173 (0, [some (.inr (.inr (.inl (some 12)))), some (.inl x1)], [], S0, s, 0, 0) (q_KI K)
/-- 175: Marktongue$InlineReader.start()V -/
def c_Il_start (X : Nat × (Nat → Int32))  (s : qM) (K : qM → Prop) : Prop := q_W (PP X) 175 (0, [some (.inr (.inr (.inl (some 44))))], [], S0, s, 0, 0) (q_KV K)
/-- 176: Marktongue$InlineReader.addCharacter(I)V -/
def c_Il_addCharacter (X : Nat × (Nat → Int32)) (x1 : Int) (s : qM) (K : qM → Prop) : Prop := q_W (PP X) 176 (0, [some (.inr (.inr (.inl (some 44)))), some (.inl x1)], [], S0, s, 0, 0) (q_KV K)
/-- 177: Marktongue$InlineReader.size()I -/
def c_Il_size (X : Nat × (Nat → Int32))  (s : qM) (K : Int → qM → Prop) : Prop := q_W (PP X) 177 (0, [some (.inr (.inr (.inl (some 44))))], [], S0, s, 0, 0) (q_KI K)
/-- 178: Marktongue$InlineReader.characterAt(I)I -/
def c_Il_characterAt (X : Nat × (Nat → Int32)) (x1 : Int) (s : qM) (K : Int → qM → Prop) : Prop := q_W (PP X) 178 (0, [some (.inr (.inr (.inl (some 44)))), some (.inl x1)], [], S0, s, 0, 0) (q_KI K)
/-- 179: Marktongue$InlineReader.roleAt(I)I -/
def c_Il_roleAt (X : Nat × (Nat → Int32)) (x1 : Int) (s : qM) (K : Int → qM → Prop) : Prop := q_W (PP X) 179 (0, [some (.inr (.inr (.inl (some 44)))), some (.inl x1)], [], S0, s, 0, 0) (q_KI K)
/-- 180: Marktongue$InlineReader.signAt(I)I -/
def c_Il_signAt (X : Nat × (Nat → Int32)) (x1 : Int) (s : qM) (K : Int → qM → Prop) : Prop := q_W (PP X) 180 (0, [some (.inr (.inr (.inl (some 44)))), some (.inl x1)], [], S0, s, 0, 0) (q_KI K)
/-- 181: Marktongue$InlineReader.read()V -/
def c_Il_read (X : Nat × (Nat → Int32))  (s : qM) (K : qM → Prop) : Prop := q_W (PP X) 181 (0, [some (.inr (.inr (.inl (some 44)))), none, none], [], S0, s, 0, 0) (q_KV K)
def L_Il_read_4 (X : Nat × (Nat → Int32))  (v1 v2 : Int) (s : qM) (K : qM → Prop) : Prop := q_W (PP X) 181 (4, [some (.inr (.inr (.inl (some 44)))), some (.inl v1), some (.inl v2)], [], S0, s, 0, 0) (q_KV K)
/-- 182: Marktongue$InlineReader.passEscape(I)I -/
def c_Il_passEscape (X : Nat × (Nat → Int32)) (x1 : Int) (s : qM) (K : Int → qM → Prop) : Prop := q_W (PP X) 182 (0, [some (.inr (.inr (.inl (some 44)))), some (.inl x1)], [], S0, s, 0, 0) (q_KI K)
/-- 183: Marktongue$InlineReader.passTicks(I)I -/
def c_Il_passTicks (X : Nat × (Nat → Int32)) (x1 : Int) (s : qM) (K : Int → qM → Prop) : Prop := q_W (PP X) 183 (0, [some (.inr (.inr (.inl (some 44)))), some (.inl x1), none, none, none], [], S0, s, 0, 0) (q_KI K)
/-- 184: Marktongue$InlineReader.findTicks(II)I -/
def c_Il_findTicks (X : Nat × (Nat → Int32)) (x1 : Int) (x2 : Int) (s : qM) (K : Int → qM → Prop) : Prop := q_W (PP X) 184 (0, [some (.inr (.inr (.inl (some 44)))), some (.inl x1), some (.inl x2), none, none, none], [], S0, s, 0, 0) (q_KI K)
def L_Il_findTicks_5 (X : Nat × (Nat → Int32))  (v2 v3 v4 : Int) (s : qM) (K : Int → qM → Prop) : Prop := q_W (PP X) 184 (5, [some (.inr (.inr (.inl (some 44)))), none, some (.inl v2), some (.inl v3), some (.inl v4), none], [], S0, s, 0, 0) (q_KI K)
/-- 185: Marktongue$InlineReader.runEnd(I)I -/
def c_Il_runEnd (X : Nat × (Nat → Int32)) (x1 : Int) (s : qM) (K : Int → qM → Prop) : Prop := q_W (PP X) 185 (0, [some (.inr (.inr (.inl (some 44)))), some (.inl x1), none], [], S0, s, 0, 0) (q_KI K)
def L_Il_runEnd_4 (X : Nat × (Nat → Int32))  (v1 v2 : Int) (s : qM) (K : Int → qM → Prop) : Prop := q_W (PP X) 185 (4, [some (.inr (.inr (.inl (some 44)))), some (.inl v1), some (.inl v2)], [], S0, s, 0, 0) (q_KI K)
/-- 186: Marktongue$InlineReader.pass(II)V -/
def c_Il_pass (X : Nat × (Nat → Int32)) (x1 : Int) (x2 : Int) (s : qM) (K : qM → Prop) : Prop := q_W (PP X) 186 (0, [some (.inr (.inr (.inl (some 44)))), some (.inl x1), some (.inl x2), none], [], S0, s, 0, 0) (q_KV K)
def L_Il_pass_2 (X : Nat × (Nat → Int32))  (v2 v3 : Int) (s : qM) (K : qM → Prop) : Prop := q_W (PP X) 186 (2, [some (.inr (.inr (.inl (some 44)))), none, some (.inl v2), some (.inl v3)], [], S0, s, 0, 0) (q_KV K)
/-- 187: Marktongue$InlineReader.passBracket(I)I -/
def c_Il_passBracket (X : Nat × (Nat → Int32)) (x1 : Int) (s : qM) (K : Int → qM → Prop) : Prop := q_W (PP X) 187 (0, [some (.inr (.inr (.inl (some 44)))), some (.inl x1), none, none, none, none, none, none], [], S0, s, 0, 0) (q_KI K)
def L_Il_passBracket_67 (X : Nat × (Nat → Int32))  (v1 v2 v3 t0 : Int) (s : qM) (K : Int → qM → Prop) : Prop := q_W (PP X) 187 (67, [some (.inr (.inr (.inl (some 44)))), some (.inl v1), some (.inl v2), some (.inl v3), none, none, none, none], [(.inl t0)], S0, s, 0, 0) (q_KI K)
def L_Il_passBracket_123 (X : Nat × (Nat → Int32))  (v1 v2 v3 t0 : Int) (s : qM) (K : Int → qM → Prop) : Prop := q_W (PP X) 187 (123, [some (.inr (.inr (.inl (some 44)))), some (.inl v1), some (.inl v2), some (.inl v3), none, none, none, none], [(.inl t0)], S0, s, 0, 0) (q_KI K)
/-- 188: Marktongue$InlineReader.referenceEnd(I)I -/
def c_Il_referenceEnd (X : Nat × (Nat → Int32)) (x1 : Int) (s : qM) (K : Int → qM → Prop) : Prop := q_W (PP X) 188 (0, [some (.inr (.inr (.inl (some 44)))), some (.inl x1), none, none], [], S0, s, 0, 0) (q_KI K)
/-- 189: Marktongue$InlineReader.passStars(I)I -/
def c_Il_passStars (X : Nat × (Nat → Int32)) (x1 : Int) (s : qM) (K : Int → qM → Prop) : Prop := q_W (PP X) 189 (0, [some (.inr (.inr (.inl (some 44)))), some (.inl x1), none], [], S0, s, 0, 0) (q_KI K)
/-- 191: Marktongue$Lines.split()V -/
def c_Lines_split (X : Nat × (Nat → Int32)) (th : Nat) (s : qM) (K : qM → Prop) : Prop := q_W (PP X) 191 (0, [some (.inr (.inr (.inl (some th)))), none], [], S0, s, 0, 0) (q_KV K)
def L_Lines_split_24 (X : Nat × (Nat → Int32)) (th : Nat) (v1 : Int) (s : qM) (K : qM → Prop) : Prop := q_W (PP X) 191 (24, [some (.inr (.inr (.inl (some th)))), some (.inl v1)], [], S0, s, 0, 0) (q_KV K)
/-- 192: Marktongue$Lines.many()I -/
def c_Lines_many (X : Nat × (Nat → Int32)) (th : Nat) (s : qM) (K : Int → qM → Prop) : Prop := q_W (PP X) 192 (0, [some (.inr (.inr (.inl (some th))))], [], S0, s, 0, 0) (q_KI K)
/-- 193: Marktongue$Lines.begin(I)I -/
def c_Lines_begin (X : Nat × (Nat → Int32)) (th : Nat) (x1 : Int) (s : qM) (K : Int → qM → Prop) : Prop := q_W (PP X) 193 (0, [some (.inr (.inr (.inl (some th)))), some (.inl x1)], [], S0, s, 0, 0) (q_KI K)
/-- 194: Marktongue$Lines.end(I)I -/
def c_Lines_end (X : Nat × (Nat → Int32)) (th : Nat) (x1 : Int) (s : qM) (K : Int → qM → Prop) : Prop := q_W (PP X) 194 (0, [some (.inr (.inr (.inl (some th)))), some (.inl x1)], [], S0, s, 0, 0) (q_KI K)
/-- 195: Marktongue$Lines.characterAt(I)I -/
def c_Lines_characterAt (X : Nat × (Nat → Int32)) (th : Nat) (x1 : Int) (s : qM) (K : Int → qM → Prop) : Prop := q_W (PP X) 195 (0, [some (.inr (.inr (.inl (some th)))), some (.inl x1)], [], S0, s, 0, 0) (q_KI K)
/-- 196: Marktongue$Lines.isSame(ILMarktongue$Lines;I)Z -/
def c_Lines_isSame (X : Nat × (Nat → Int32)) (th : Nat) (x1 : Int) (x2 : Nat) (x3 : Int) (s : qM) (K : Int → qM → Prop) : Prop := q_W (PP X) 196 (0, [some (.inr (.inr (.inl (some th)))), some (.inl x1), some (.inr (.inr (.inl (some x2)))), some (.inl x3), none, none, none, none], [], S0, s, 0, 0) (q_KI K)
def L_Lines_isSame_48 (X : Nat × (Nat → Int32)) (th : Nat) (x2 : Nat) (v4 v5 v6 v7 : Int) (s : qM) (K : Int → qM → Prop) : Prop := q_W (PP X) 196 (48, [some (.inr (.inr (.inl (some th)))), none, some (.inr (.inr (.inl (some x2)))), none, some (.inl v4), some (.inl v5), some (.inl v6), some (.inl v7)], [], S0, s, 0, 0) (q_KI K)
/-- 198: Marktongue$Merger.merged()LMarktongue$Row; -/
def c_Merger_merged (X : Nat × (Nat → Int32))  (s : qM) (K : Nat → qM → Prop) : Prop := q_W (PP X) 198 (0, [some (.inr (.inr (.inl (some 90))))], [], S0, s, 0, 0) (q_KA K)
/-- 199: Marktongue$Merger.mergedSize()I -/
def c_Merger_mergedSize (X : Nat × (Nat → Int32))  (s : qM) (K : Int → qM → Prop) : Prop := q_W (PP X) 199 (0, [some (.inr (.inr (.inl (some 90))))], [], S0, s, 0, 0) (q_KI K)
/-- 200: Marktongue$Merger.conflicts()I -/
def c_Merger_conflicts (X : Nat × (Nat → Int32))  (s : qM) (K : Int → qM → Prop) : Prop := q_W (PP X) 200 (0, [some (.inr (.inr (.inl (some 90))))], [], S0, s, 0, 0) (q_KI K)
/-- 201: Marktongue$Merger.run()V -/
def c_Merger_run (X : Nat × (Nat → Int32))  (s : qM) (K : qM → Prop) : Prop := q_W (PP X) 201 (0, [some (.inr (.inr (.inl (some 90)))), none, none, none], [], S0, s, 0, 0) (q_KV K)
def L_Merger_run_90 (X : Nat × (Nat → Int32))  (v1 : Int) (s : qM) (K : qM → Prop) : Prop := q_W (PP X) 201 (90, [some (.inr (.inr (.inl (some 90)))), some (.inl v1), none, none], [], S0, s, 0, 0) (q_KV K)
/-- 202: Marktongue$Merger.startBehind(III)V -/
def c_Merger_startBehind (X : Nat × (Nat → Int32)) (x1 : Int) (x2 : Int) (x3 : Int) (s : qM) (K : qM → Prop) : Prop := q_W (PP X) 202 (0, [some (.inr (.inr (.inl (some 90)))), some (.inl x1), some (.inl x2), some (.inl x3)], [], S0, s, 0, 0) (q_KV K)
/-- 203: Marktongue$Merger.settle(III)V -/
def c_Merger_settle (X : Nat × (Nat → Int32)) (x1 : Int) (x2 : Int) (x3 : Int) (s : qM) (K : qM → Prop) : Prop := q_W (PP X) 203 (0, [some (.inr (.inr (.inl (some 90)))), some (.inl x1), some (.inl x2), some (.inl x3)], [], S0, s, 0, 0) (q_KV K)
/-- 204: Marktongue$Merger.areSame(LMarktongue$Lines;IILMarktongue$Lines;II)Z -/
def c_Merger_areSame (X : Nat × (Nat → Int32)) (x1 : Nat) (x2 : Int) (x3 : Int) (x4 : Nat) (x5 : Int) (x6 : Int) (s : qM) (K : Int → qM → Prop) : Prop := q_W (PP X) 204 (0, [some (.inr (.inr (.inl (some 90)))), some (.inr (.inr (.inl (some x1)))), some (.inl x2), some (.inl x3), some (.inr (.inr (.inl (some x4)))), some (.inl x5), some (.inl x6), none], [], S0, s, 0, 0) (q_KI K)
def L_Merger_areSame_16 (X : Nat × (Nat → Int32)) (x1 : Nat) (x4 : Nat) (v2 v3 v5 v7 : Int) (s : qM) (K : Int → qM → Prop) : Prop := q_W (PP X) 204 (16, [none, some (.inr (.inr (.inl (some x1)))), some (.inl v2), some (.inl v3), some (.inr (.inr (.inl (some x4)))), some (.inl v5), none, some (.inl v7)], [], S0, s, 0, 0) (q_KI K)
/-- 205: Marktongue$Merger.write(LMarktongue$Lines;II)V -/
def c_Merger_write (X : Nat × (Nat → Int32)) (x1 : Nat) (x2 : Int) (x3 : Int) (s : qM) (K : qM → Prop) : Prop := q_W (PP X) 205 (0, [some (.inr (.inr (.inl (some 90)))), some (.inr (.inr (.inl (some x1)))), some (.inl x2), some (.inl x3), none, none], [], S0, s, 0, 0) (q_KV K)
def L_Merger_write_3 (X : Nat × (Nat → Int32)) (x1 : Nat) (v3 v4 : Int) (s : qM) (K : qM → Prop) : Prop := q_W (PP X) 205 (3, [some (.inr (.inr (.inl (some 90)))), some (.inr (.inr (.inl (some x1)))), none, some (.inl v3), some (.inl v4), none], [], S0, s, 0, 0) (q_KV K)
def L_Merger_write_43 (X : Nat × (Nat → Int32)) (x1 : Nat) (v3 v4 v5 : Int) (s : qM) (K : qM → Prop) : Prop := q_W (PP X) 205 (43, [some (.inr (.inr (.inl (some 90)))), some (.inr (.inr (.inl (some x1)))), none, some (.inl v3), some (.inl v4), some (.inl v5)], [], S0, s, 0, 0) (q_KV K)
/-- 207: Marktongue$Names.empty()V -/
def c_Names_empty (X : Nat × (Nat → Int32)) (th : Nat) (s : qM) (K : qM → Prop) : Prop := q_W (PP X) 207 (0, [some (.inr (.inr (.inl (some th))))], [], S0, s, 0, 0) (q_KV K)
/-- 208: Marktongue$Names.add(JI)V -/
def c_Names_add (X : Nat × (Nat → Int32)) (th : Nat) (x1 : Int) (x2 : Int) (s : qM) (K : qM → Prop) : Prop := q_W (PP X) 208 (0, [some (.inr (.inr (.inl (some th)))), some (.inr (.inl x1)), none, some (.inl x2), none], [], S0, s, 0, 0) (q_KV K)
/-- 209: Marktongue$Names.find(J)I -/
def c_Names_find (X : Nat × (Nat → Int32)) (th : Nat) (x1 : Int) (s : qM) (K : Int → qM → Prop) : Prop := q_W (PP X) 209 (0, [some (.inr (.inr (.inl (some th)))), some (.inr (.inl x1)), none, none], [], S0, s, 0, 0) (q_KI K)
def L_Names_find_2 (X : Nat × (Nat → Int32)) (th : Nat) (v1 v3 : Int) (s : qM) (K : Int → qM → Prop) : Prop := q_W (PP X) 209 (2, [some (.inr (.inr (.inl (some th)))), some (.inr (.inl v1)), none, some (.inl v3)], [], S0, s, 0, 0) (q_KI K)
/-- 210: Marktongue$Names.blockAt(I)I -/
def c_Names_blockAt (X : Nat × (Nat → Int32)) (th : Nat) (x1 : Int) (s : qM) (K : Int → qM → Prop) : Prop := q_W (PP X) 210 (0, [some (.inr (.inr (.inl (some th)))), some (.inl x1)], [], S0, s, 0, 0) (q_KI K)
/-- 212: Marktongue$Pairing.pair(LMarktongue$Lines;LMarktongue$Lines;LMarktongue$Row;)V -/
def c_Pairing_pair (X : Nat × (Nat → Int32)) (x1 : Nat) (x2 : Nat) (x3 : Nat) (s : qM) (K : qM → Prop) : Prop := q_W (PP X) 212 (0, [some (.inr (.inr (.inl (some 101)))), some (.inr (.inr (.inl (some x1)))), some (.inr (.inr (.inl (some x2)))), some (.inr (.inr (.inl (some x3)))), none, none, none], [], S0, s, 0, 0) (q_KV K)
def L_Pairing_pair_24 (X : Nat × (Nat → Int32)) (x1 : Nat) (x2 : Nat) (x3 : Nat) (v4 v5 v6 : Int) (s : qM) (K : qM → Prop) : Prop := q_W (PP X) 212 (24, [some (.inr (.inr (.inl (some 101)))), some (.inr (.inr (.inl (some x1)))), some (.inr (.inr (.inl (some x2)))), some (.inr (.inr (.inl (some x3)))), some (.inl v4), some (.inl v5), some (.inl v6)], [], S0, s, 0, 0) (q_KV K)
/-- 213: Marktongue$Pairing.fillLeavings(LMarktongue$Lines;LMarktongue$Lines;)V -/
def c_Pairing_fillLeavings (X : Nat × (Nat → Int32)) (x1 : Nat) (x2 : Nat) (s : qM) (K : qM → Prop) : Prop := q_W (PP X) 213 (0, [some (.inr (.inr (.inl (some 101)))), some (.inr (.inr (.inl (some x1)))), some (.inr (.inr (.inl (some x2)))), none, none, none, none, none], [], S0, s, 0, 0) (q_KV K)
def L_Pairing_fillLeavings_35 (X : Nat × (Nat → Int32)) (x1 : Nat) (x2 : Nat) (v3 : Int) (s : qM) (K : qM → Prop) : Prop := q_W (PP X) 213 (35, [some (.inr (.inr (.inl (some 101)))), some (.inr (.inr (.inl (some x1)))), some (.inr (.inr (.inl (some x2)))), some (.inl v3), none, none, none, none], [], S0, s, 0, 0) (q_KV K)
def L_Pairing_fillLeavings_47 (X : Nat × (Nat → Int32)) (x1 : Nat) (x2 : Nat) (v3 v4 : Int) (s : qM) (K : qM → Prop) : Prop := q_W (PP X) 213 (47, [some (.inr (.inr (.inl (some 101)))), some (.inr (.inr (.inl (some x1)))), some (.inr (.inr (.inl (some x2)))), some (.inl v3), some (.inl v4), none, none, none], [], S0, s, 0, 0) (q_KV K)
def L_Pairing_fillLeavings_92 (X : Nat × (Nat → Int32)) (x1 : Nat) (x2 : Nat) (v3 v4 v5 v6 t1 t2 t3 : Int) (s : qM) (K : qM → Prop) : Prop := q_W (PP X) 213 (92, [some (.inr (.inr (.inl (some 101)))), some (.inr (.inr (.inl (some x1)))), some (.inr (.inr (.inl (some x2)))), some (.inl v3), some (.inl v4), some (.inl v5), some (.inl v6), none], [(.inl t3), (.inl t2), (.inl t1), (.inr (.inr (.inl (some 101))))], S0, s, 0, 0) (q_KV K)
/-- 214: Marktongue$Pairing.isLeftOut(II)Z -/
def c_Pairing_isLeftOut (X : Nat × (Nat → Int32)) (x1 : Int) (x2 : Int) (s : qM) (K : Int → qM → Prop) : Prop := q_W (PP X) 214 (0, [some (.inr (.inr (.inl (some 101)))), some (.inl x1), some (.inl x2), none], [], S0, s, 0, 0) (q_KI K)
/-- 215: Marktongue$Pairing.leaveOut(IIZ)V -/
def c_Pairing_leaveOut (X : Nat × (Nat → Int32)) (x1 : Int) (x2 : Int) (x3 : Int) (s : qM) (K : qM → Prop) : Prop := q_W (PP X) 215 (0, [some (.inr (.inr (.inl (some 101)))), some (.inl x1), some (.inl x2), some (.inl x3), none, none, none], [], S0, s, 0, 0) (q_KV K)
/-- 217: Marktongue$Printer.of(I)LMarktongue$Row; -/
def c_Printer_of (X : Nat × (Nat → Int32)) (x1 : Int) (s : qM) (K : Nat → qM → Prop) : Prop := q_W (PP X) 217 (0, [some (.inr (.inr (.inl (some 83)))), some (.inl x1)], [], S0, s, 0, 0) (q_KA K)
/-- 218: Marktongue$Printer.write()V -/
def c_Printer_write (X : Nat × (Nat → Int32))  (s : qM) (K : qM → Prop) : Prop := q_W (PP X) 218 (0, [some (.inr (.inr (.inl (some 83)))), none, none], [], S0, s, 0, 0) (q_KV K)
def L_Printer_write_18 (X : Nat × (Nat → Int32))  (v1 v2 : Int) (s : qM) (K : qM → Prop) : Prop := q_W (PP X) 218 (18, [some (.inr (.inr (.inl (some 83)))), some (.inl v1), some (.inl v2)], [], S0, s, 0, 0) (q_KV K)
/-- 219: Marktongue$Printer.begin(I)V -/
def c_Printer_begin (X : Nat × (Nat → Int32)) (x1 : Int) (s : qM) (K : qM → Prop) : Prop := q_W (PP X) 219 (0, [some (.inr (.inr (.inl (some 83)))), some (.inl x1), none], [], S0, s, 0, 0) (q_KV K)
def L_Printer_begin_56 (X : Nat × (Nat → Int32))  (v1 v2 : Int) (s : qM) (K : qM → Prop) : Prop := q_W (PP X) 219 (56, [some (.inr (.inr (.inl (some 83)))), some (.inl v1), some (.inl v2)], [], S0, s, 0, 0) (q_KV K)
/-- 220: Marktongue$Printer.endUpTo(II)V -/
def c_Printer_endUpTo (X : Nat × (Nat → Int32)) (x1 : Int) (x2 : Int) (s : qM) (K : qM → Prop) : Prop := q_W (PP X) 220 (0, [some (.inr (.inr (.inl (some 83)))), some (.inl x1), some (.inl x2), none, none], [], S0, s, 0, 0) (q_KV K)
def L_Printer_endUpTo_5 (X : Nat × (Nat → Int32))  (v1 v3 v4 : Int) (s : qM) (K : qM → Prop) : Prop := q_W (PP X) 220 (5, [some (.inr (.inr (.inl (some 83)))), some (.inl v1), none, some (.inl v3), some (.inl v4)], [], S0, s, 0, 0) (q_KV K)
def L_Printer_endUpTo_45 (X : Nat × (Nat → Int32))  (v1 v3 v4 : Int) (s : qM) (K : qM → Prop) : Prop := q_W (PP X) 220 (45, [some (.inr (.inr (.inl (some 83)))), some (.inl v1), none, some (.inl v3), some (.inl v4)], [], S0, s, 0, 0) (q_KV K)
/-- 221: Marktongue$Printer.isMarked(I)Z -/
def c_Printer_isMarked (X : Nat × (Nat → Int32)) (x1 : Int) (s : qM) (K : Int → qM → Prop) : Prop := q_W (PP X) 221 (0, [some (.inr (.inr (.inl (some 83)))), some (.inl x1)], [], S0, s, 0, 0) (q_KI K)
/-- 223: Marktongue$Row.size()I -/
def c_Row_size (X : Nat × (Nat → Int32)) (th : Nat) (s : qM) (K : Int → qM → Prop) : Prop := q_W (PP X) 223 (0, [some (.inr (.inr (.inl (some th))))], [], S0, s, 0, 0) (q_KI K)
/-- 224: Marktongue$Row.at(I)I -/
def c_Row_at (X : Nat × (Nat → Int32)) (th : Nat) (x1 : Int) (s : qM) (K : Int → qM → Prop) : Prop := q_W (PP X) 224 (0, [some (.inr (.inr (.inl (some th)))), some (.inl x1)], [], S0, s, 0, 0) (q_KI K)
/-- 225: Marktongue$Row.set(II)V -/
def c_Row_set (X : Nat × (Nat → Int32)) (th : Nat) (x1 : Int) (x2 : Int) (s : qM) (K : qM → Prop) : Prop := q_W (PP X) 225 (0, [some (.inr (.inr (.inl (some th)))), some (.inl x1), some (.inl x2)], [], S0, s, 0, 0) (q_KV K)
/-- 226: Marktongue$Row.add(I)V -/
def c_Row_add (X : Nat × (Nat → Int32)) (th : Nat) (x1 : Int) (s : qM) (K : qM → Prop) : Prop := q_W (PP X) 226 (0, [some (.inr (.inr (.inl (some th)))), some (.inl x1)], [], S0, s, 0, 0) (q_KV K)
/-- 227: Marktongue$Row.empty()V -/
def c_Row_empty (X : Nat × (Nat → Int32)) (th : Nat) (s : qM) (K : qM → Prop) : Prop := q_W (PP X) 227 (0, [some (.inr (.inr (.inl (some th))))], [], S0, s, 0, 0) (q_KV K)
/-- 228: Marktongue$Row.cut(I)V -/
def c_Row_cut (X : Nat × (Nat → Int32)) (th : Nat) (x1 : Int) (s : qM) (K : qM → Prop) : Prop := q_W (PP X) 228 (0, [some (.inr (.inr (.inl (some th)))), some (.inl x1)], [], S0, s, 0, 0) (q_KV K)
/-- 229: Marktongue$Row.fill(II)V -/
def c_Row_fill (X : Nat × (Nat → Int32)) (th : Nat) (x1 : Int) (x2 : Int) (s : qM) (K : qM → Prop) : Prop := q_W (PP X) 229 (0, [some (.inr (.inr (.inl (some th)))), some (.inl x1), some (.inl x2), none], [], S0, s, 0, 0) (q_KV K)
def L_Row_fill_6 (X : Nat × (Nat → Int32)) (th : Nat) (v1 v2 v3 : Int) (s : qM) (K : qM → Prop) : Prop := q_W (PP X) 229 (6, [some (.inr (.inr (.inl (some th)))), some (.inl v1), some (.inl v2), some (.inl v3)], [], S0, s, 0, 0) (q_KV K)
/-- 230: Marktongue$Row.insert(II)V -/
def c_Row_insert (X : Nat × (Nat → Int32)) (th : Nat) (x1 : Int) (x2 : Int) (s : qM) (K : qM → Prop) : Prop := q_W (PP X) 230 (0, [some (.inr (.inr (.inl (some th)))), some (.inl x1), some (.inl x2), none], [], S0, s, 0, 0) (q_KV K)
def L_Row_insert_12 (X : Nat × (Nat → Int32)) (th : Nat) (v1 v2 v3 : Int) (s : qM) (K : qM → Prop) : Prop := q_W (PP X) 230 (12, [some (.inr (.inr (.inl (some th)))), some (.inl v1), some (.inl v2), some (.inl v3)], [], S0, s, 0, 0) (q_KV K)
/-- 231: Marktongue$Row.remove(II)V -/
def c_Row_remove (X : Nat × (Nat → Int32)) (th : Nat) (x1 : Int) (x2 : Int) (s : qM) (K : qM → Prop) : Prop := q_W (PP X) 231 (0, [some (.inr (.inr (.inl (some th)))), some (.inl x1), some (.inl x2), none], [], S0, s, 0, 0) (q_KV K)
def L_Row_remove_4 (X : Nat × (Nat → Int32)) (th : Nat) (v2 v3 : Int) (s : qM) (K : qM → Prop) : Prop := q_W (PP X) 231 (4, [some (.inr (.inr (.inl (some th)))), none, some (.inl v2), some (.inl v3)], [], S0, s, 0, 0) (q_KV K)
/-- 232: Marktongue$Row.become(LMarktongue$Row;)V -/
def c_Row_become (X : Nat × (Nat → Int32)) (th : Nat) (x1 : Nat) (s : qM) (K : qM → Prop) : Prop := q_W (PP X) 232 (0, [some (.inr (.inr (.inl (some th)))), some (.inr (.inr (.inl (some x1)))), none], [], S0, s, 0, 0) (q_KV K)
def L_Row_become_6 (X : Nat × (Nat → Int32)) (th : Nat) (x1 : Nat) (v2 : Int) (s : qM) (K : qM → Prop) : Prop := q_W (PP X) 232 (6, [some (.inr (.inr (.inl (some th)))), some (.inr (.inr (.inl (some x1)))), some (.inl v2)], [], S0, s, 0, 0) (q_KV K)
/-- 234: Marktongue$Runs.empty()V -/
def c_Runs_empty (X : Nat × (Nat → Int32))  (s : qM) (K : qM → Prop) : Prop := q_W (PP X) 234 (0, [some (.inr (.inr (.inl (some 53))))], [], S0, s, 0, 0) (q_KV K)
/-- 235: Marktongue$Runs.cut(I)V -/
def c_Runs_cut (X : Nat × (Nat → Int32)) (x1 : Int) (s : qM) (K : qM → Prop) : Prop := q_W (PP X) 235 (0, [some (.inr (.inr (.inl (some 53)))), some (.inl x1)], [], S0, s, 0, 0) (q_KV K)
/-- 236: Marktongue$Runs.add(IIII)V -/
def c_Runs_add (X : Nat × (Nat → Int32)) (x1 : Int) (x2 : Int) (x3 : Int) (x4 : Int) (s : qM) (K : qM → Prop) : Prop := q_W (PP X) 236 (0, [some (.inr (.inr (.inl (some 53)))), some (.inl x1), some (.inl x2), some (.inl x3), some (.inl x4)], [], S0, s, 0, 0) (q_KV K)
/-- 237: Marktongue$Runs.isFlank(II)Z -/
def c_Runs_isFlank (X : Nat × (Nat → Int32)) (x1 : Int) (x2 : Int) (s : qM) (K : Int → qM → Prop) : Prop := q_W (PP X) 237 (0, [some (.inr (.inr (.inl (some 53)))), some (.inl x1), some (.inl x2)], [], S0, s, 0, 0) (q_KI K)
/-- 238: Marktongue$Runs.firstBehind(I)I -/
def c_Runs_firstBehind (X : Nat × (Nat → Int32)) (x1 : Int) (s : qM) (K : Int → qM → Prop) : Prop := q_W (PP X) 238 (0, [some (.inr (.inr (.inl (some 53)))), some (.inl x1), none], [], S0, s, 0, 0) (q_KI K)
def L_Runs_firstBehind_2 (X : Nat × (Nat → Int32))  (v1 v2 : Int) (s : qM) (K : Int → qM → Prop) : Prop := q_W (PP X) 238 (2, [some (.inr (.inr (.inl (some 53)))), some (.inl v1), some (.inl v2)], [], S0, s, 0, 0) (q_KI K)
/-- 239: Marktongue$Runs.resolve(ILMarktongue$Row;)V -/
def c_Runs_resolve (X : Nat × (Nat → Int32)) (x1 : Int) (x2 : Nat) (s : qM) (K : qM → Prop) : Prop := q_W (PP X) 239 (0, [some (.inr (.inr (.inl (some 53)))), some (.inl x1), some (.inr (.inr (.inl (some x2)))), none, none, none], [], S0, s, 0, 0) (q_KV K)
def L_Runs_resolve_2 (X : Nat × (Nat → Int32)) (x2 : Nat) (v1 v3 : Int) (s : qM) (K : qM → Prop) : Prop := q_W (PP X) 239 (2, [some (.inr (.inr (.inl (some 53)))), some (.inl v1), some (.inr (.inr (.inl (some x2)))), some (.inl v3), none, none], [], S0, s, 0, 0) (q_KV K)
def L_Runs_resolve_16 (X : Nat × (Nat → Int32)) (x2 : Nat) (v1 v3 v4 : Int) (s : qM) (K : qM → Prop) : Prop := q_W (PP X) 239 (16, [some (.inr (.inr (.inl (some 53)))), some (.inl v1), some (.inr (.inr (.inl (some x2)))), some (.inl v3), some (.inl v4), none], [], S0, s, 0, 0) (q_KV K)
/-- 240: Marktongue$Runs.left(I)I -/
def c_Runs_left (X : Nat × (Nat → Int32)) (x1 : Int) (s : qM) (K : Int → qM → Prop) : Prop := q_W (PP X) 240 (0, [some (.inr (.inr (.inl (some 53)))), some (.inl x1)], [], S0, s, 0, 0) (q_KI K)
/-- 241: Marktongue$Runs.openerOf(II)I -/
def c_Runs_openerOf (X : Nat × (Nat → Int32)) (x1 : Int) (x2 : Int) (s : qM) (K : Int → qM → Prop) : Prop := q_W (PP X) 241 (0, [some (.inr (.inr (.inl (some 53)))), some (.inl x1), some (.inl x2), none], [], S0, s, 0, 0) (q_KI K)
def L_Runs_openerOf_4 (X : Nat × (Nat → Int32))  (v1 v2 v3 : Int) (s : qM) (K : Int → qM → Prop) : Prop := q_W (PP X) 241 (4, [some (.inr (.inr (.inl (some 53)))), some (.inl v1), some (.inl v2), some (.inl v3)], [], S0, s, 0, 0) (q_KI K)
/-- 242: Marktongue$Runs.breaksRule(II)Z -/
def c_Runs_breaksRule (X : Nat × (Nat → Int32)) (x1 : Int) (x2 : Int) (s : qM) (K : Int → qM → Prop) : Prop := q_W (PP X) 242 (0, [some (.inr (.inr (.inl (some 53)))), some (.inl x1), some (.inl x2), none, none, none], [], S0, s, 0, 0) (q_KI K)
def L_Runs_breaksRule_29 (X : Nat × (Nat → Int32))  (v1 v2 t0 : Int) (s : qM) (K : Int → qM → Prop) : Prop := q_W (PP X) 242 (29, [some (.inr (.inr (.inl (some 53)))), some (.inl v1), some (.inl v2), none, none, none], [(.inl t0)], S0, s, 0, 0) (q_KI K)
/-- 243: Marktongue$Runs.pair(IILMarktongue$Row;)V -/
def c_Runs_pair (X : Nat × (Nat → Int32)) (x1 : Int) (x2 : Int) (x3 : Nat) (s : qM) (K : qM → Prop) : Prop := q_W (PP X) 243 (0, [some (.inr (.inr (.inl (some 53)))), some (.inl x1), some (.inl x2), some (.inr (.inr (.inl (some x3)))), none, none, none, none], [], S0, s, 0, 0) (q_KV K)
def L_Runs_pair_22 (X : Nat × (Nat → Int32)) (x3 : Nat) (v1 v2 : Int) (s : qM) (K : qM → Prop) : Prop := q_W (PP X) 243 (22, [some (.inr (.inr (.inl (some 53)))), some (.inl v1), some (.inl v2), some (.inr (.inr (.inl (some x3)))), none, none, none, none], [], S0, s, 0, 0) (q_KV K)
def L_Runs_pair_74 (X : Nat × (Nat → Int32)) (x3 : Nat) (v1 v2 v4 v5 v6 : Int) (s : qM) (K : qM → Prop) : Prop := q_W (PP X) 243 (74, [some (.inr (.inr (.inl (some 53)))), some (.inl v1), some (.inl v2), some (.inr (.inr (.inl (some x3)))), some (.inl v4), some (.inl v5), some (.inl v6), none], [], S0, s, 0, 0) (q_KV K)
def L_Runs_pair_129 (X : Nat × (Nat → Int32)) (x3 : Nat) (v2 v7 : Int) (s : qM) (K : qM → Prop) : Prop := q_W (PP X) 243 (129, [some (.inr (.inr (.inl (some 53)))), none, some (.inl v2), none, none, none, none, some (.inl v7)], [], S0, s, 0, 0) (q_KV K)
/-- 245: Marktongue$Tree.start()V -/
def c_Tree_start (X : Nat × (Nat → Int32))  (s : qM) (K : qM → Prop) : Prop := q_W (PP X) 245 (0, [some (.inr (.inr (.inl (some 64))))], [], S0, s, 0, 0) (q_KV K)
/-- 246: Marktongue$Tree.addBlock(LMarktongue$Blocks;I)I -/
def c_Tree_addBlock (X : Nat × (Nat → Int32)) (x2 : Int) (s : qM) (K : Int → qM → Prop) : Prop := q_W (PP X) 246 (0, [some (.inr (.inr (.inl (some 64)))), some (.inr (.inr (.inl (some 12)))), some (.inl x2), none, none, none, none], [], S0, s, 0, 0) (q_KI K)
/-- 247: Marktongue$Tree.add(III)I -/
def c_Tree_add (X : Nat × (Nat → Int32)) (x1 : Int) (x2 : Int) (x3 : Int) (s : qM) (K : Int → qM → Prop) : Prop := q_W (PP X) 247 (0, [some (.inr (.inr (.inl (some 64)))), some (.inl x1), some (.inl x2), some (.inl x3), none], [], S0, s, 0, 0) (q_KI K)
/-- 248: Marktongue$Tree.addContent(II)V -/
def c_Tree_addContent (X : Nat × (Nat → Int32)) (x1 : Int) (x2 : Int) (s : qM) (K : qM → Prop) : Prop := q_W (PP X) 248 (0, [some (.inr (.inr (.inl (some 64)))), some (.inl x1), some (.inl x2)], [], S0, s, 0, 0) (q_KV K)
/-- 249: Marktongue$Tree.addInline(LMarktongue$InlineReader;I)V -/
def c_Tree_addInline (X : Nat × (Nat → Int32)) (x2 : Int) (s : qM) (K : qM → Prop) : Prop := q_W (PP X) 249 (0, [some (.inr (.inr (.inl (some 64)))), some (.inr (.inr (.inl (some 44)))), some (.inl x2), none, none, none, none], [], S0, s, 0, 0) (q_KV K)
def L_Tree_addInline_8 (X : Nat × (Nat → Int32))  (v3 v4 v5 : Int) (s : qM) (K : qM → Prop) : Prop := q_W (PP X) 249 (8, [some (.inr (.inr (.inl (some 64)))), some (.inr (.inr (.inl (some 44)))), none, some (.inl v3), some (.inl v4), some (.inl v5), none], [], S0, s, 0, 0) (q_KV K)
/-- 250: Marktongue$Tree.size()I -/
def c_Tree_size (X : Nat × (Nat → Int32))  (s : qM) (K : Int → qM → Prop) : Prop := q_W (PP X) 250 (0, [some (.inr (.inr (.inl (some 64))))], [], S0, s, 0, 0) (q_KI K)
/-- 251: Marktongue$Tree.kindOf(I)I -/
def c_Tree_kindOf (X : Nat × (Nat → Int32)) (x1 : Int) (s : qM) (K : Int → qM → Prop) : Prop := q_W (PP X) 251 (0, [some (.inr (.inr (.inl (some 64)))), some (.inl x1)], [], S0, s, 0, 0) (q_KI K)
/-- 252: Marktongue$Tree.parentOf(I)I -/
def c_Tree_parentOf (X : Nat × (Nat → Int32)) (x1 : Int) (s : qM) (K : Int → qM → Prop) : Prop := q_W (PP X) 252 (0, [some (.inr (.inr (.inl (some 64)))), some (.inl x1)], [], S0, s, 0, 0) (q_KI K)
/-- 253: Marktongue$Tree.childrenOf(I)I -/
def c_Tree_childrenOf (X : Nat × (Nat → Int32)) (x1 : Int) (s : qM) (K : Int → qM → Prop) : Prop := q_W (PP X) 253 (0, [some (.inr (.inr (.inl (some 64)))), some (.inl x1)], [], S0, s, 0, 0) (q_KI K)
/-- 254: Marktongue$Tree.measureOf(I)I -/
def c_Tree_measureOf (X : Nat × (Nat → Int32)) (x1 : Int) (s : qM) (K : Int → qM → Prop) : Prop := q_W (PP X) 254 (0, [some (.inr (.inr (.inl (some 64)))), some (.inl x1)], [], S0, s, 0, 0) (q_KI K)
/-- 255: Marktongue$Tree.signOf(I)I -/
def c_Tree_signOf (X : Nat × (Nat → Int32)) (x1 : Int) (s : qM) (K : Int → qM → Prop) : Prop := q_W (PP X) 255 (0, [some (.inr (.inr (.inl (some 64)))), some (.inl x1)], [], S0, s, 0, 0) (q_KI K)
/-- 256: Marktongue$Tree.numberOf(I)I -/
def c_Tree_numberOf (X : Nat × (Nat → Int32)) (x1 : Int) (s : qM) (K : Int → qM → Prop) : Prop := q_W (PP X) 256 (0, [some (.inr (.inr (.inl (some 64)))), some (.inl x1)], [], S0, s, 0, 0) (q_KI K)
/-- 257: Marktongue$Tree.childOf(II)I -/
def c_Tree_childOf (X : Nat × (Nat → Int32)) (x1 : Int) (x2 : Int) (s : qM) (K : Int → qM → Prop) : Prop := q_W (PP X) 257 (0, [some (.inr (.inr (.inl (some 64)))), some (.inl x1), some (.inl x2), none, none], [], S0, s, 0, 0) (q_KI K)
def L_Tree_childOf_7 (X : Nat × (Nat → Int32))  (v1 v2 v3 v4 : Int) (s : qM) (K : Int → qM → Prop) : Prop := q_W (PP X) 257 (7, [some (.inr (.inr (.inl (some 64)))), some (.inl v1), some (.inl v2), some (.inl v3), some (.inl v4)], [], S0, s, 0, 0) (q_KI K)
/-- 258: Marktongue$Tree.manyOf(I)I -/
def c_Tree_manyOf (X : Nat × (Nat → Int32)) (x1 : Int) (s : qM) (K : Int → qM → Prop) : Prop := q_W (PP X) 258 (0, [some (.inr (.inr (.inl (some 64)))), some (.inl x1), none, none], [], S0, s, 0, 0) (q_KI K)
def L_Tree_manyOf_4 (X : Nat × (Nat → Int32))  (v1 v2 v3 : Int) (s : qM) (K : Int → qM → Prop) : Prop := q_W (PP X) 258 (4, [some (.inr (.inr (.inl (some 64)))), some (.inl v1), some (.inl v2), some (.inl v3)], [], S0, s, 0, 0) (q_KI K)
/-- 259: Marktongue$Tree.contentSizeOf(I)I -/
def c_Tree_contentSizeOf (X : Nat × (Nat → Int32)) (x1 : Int) (s : qM) (K : Int → qM → Prop) : Prop := q_W (PP X) 259 (0, [some (.inr (.inr (.inl (some 64)))), some (.inl x1)], [], S0, s, 0, 0) (q_KI K)
/-- 260: Marktongue$Tree.contentOf(II)I -/
def c_Tree_contentOf (X : Nat × (Nat → Int32)) (x1 : Int) (x2 : Int) (s : qM) (K : Int → qM → Prop) : Prop := q_W (PP X) 260 (0, [some (.inr (.inr (.inl (some 64)))), some (.inl x1), some (.inl x2)], [], S0, s, 0, 0) (q_KI K)
