/-! What a code entry must be for the machine to do as the pure machine does; decided by program. -/
def q_cl : List vw_C := q_ft.map fun z => (z.1, (fun k => z.2.getD k ("", "", "", false)), z.2.length)
def q_T (ci k : Nat) : String × String × String × Bool := (q_ft.getD ci ("", [])).2.getD k ("", "", "", false)
def q_C (ci : Nat) : String := (q_ft.getD ci ("", [])).1
def q_N (ci : Nat) : Nat := (q_ft.getD ci ("", [])).2.length
def q_own (M : Nat) : String := (q_y M).cls
def q_has (w : Nat) (c : Jvm.Cond) : Bool := decide (lw_tbl[w]? = some c) && goodWord c
/-- a nest mate's link -/
def q_hasN (w : Nat) (c : Jvm.Cond) : Bool := decide (lw_tbl[w]? = some c)
def q_i32 (v : Int) : Bool := decide (-2147483648 ≤ v) && decide (v < 2147483648)
def q_tsc (pc : Nat) : Int → List Int → List Nat → Bool
  | _, [], [] => true
  | lo, o :: os, k :: t :: r => decide ((k : Int) = lo) && decide ((pc : Int) + o = (t : Int)) && q_tsc pc (lo + 1) os r
  | _, _, _ => false
def q_lsc (pc : Nat) : List (Int × Int) → List Nat → Bool
  | [], [] => true
  | o :: os, k :: t :: r => decide ((k : Int) = o.1) && decide ((pc : Int) + o.2 = (t : Int)) && q_lsc pc os r
  | _, _ => false
/-- a field's kind by its descriptor -/
def q_dk (d : String) : Nat := if d = "I" then 0 else if d = "Z" then 3 else 1
def q_par (d : String) : Option Nat := (parseMethodDescriptor d).map (fun d => d.parameters.length)
/-- the words of a call that every call wants: link, class initialised, code; its room -/
def q_chkC (M idx : Nat) (a ws : List Nat) : Bool :=
  (if q_a ws 1 = 1 then q_hasN (q_a ws 0) (.methodLinkNest (q_own M) idx (q_y (q_a a 0)) "Marktongue") else q_has (q_a ws 0) (.methodLink (q_own M) idx (q_y (q_a a 0)))) &&
  q_has (q_a ws 2) (.initialized (q_own (q_a a 0))) && decide (q_a a 0 < q_ys.length) &&
  decide (q_par (q_y (q_a a 0)).desc = some (q_a a 1 - q_a a 2)) && decide (q_a a 2 ≤ 1) && decide (q_a a 2 ≤ q_a a 1) &&
  decide ((q_rm (q_a a 0)).1 + 1 ≤ (q_rm M).1) && decide (8 + (q_nL (q_a a 0) + 11) + (q_rm (q_a a 0)).2.1 ≤ (q_rm M).2.1)
def q_chk2 (M pc len : Nat) (i : Instr) (v : Int) (a ws : List Nat) : Bool := match i with
  | .iconst n => len == 1 && decide (Int32.ofInt n = Int32.ofInt v) && q_i32 v
  | .bipush n => len == 2 && decide ((Int8.ofInt n).toInt32 = Int32.ofInt v) && q_i32 v
  | .sipush n => len == 3 && decide ((Int16.ofInt n).toInt32 = Int32.ofInt v) && q_i32 v
  | .ldc idx => len == 2 && q_has (q_a ws 0) (.constant (q_own M) idx (Int32.ofInt v)) && q_i32 v
  | .lconst n => len == 1 && decide (Int64.ofNat n = Int64.ofInt v) && q_i32 v
  | .ldc2_w idx => len == 3 && q_has (q_a ws 0) (.constantLong (q_own M) idx (Int64.ofInt v)) && q_i32 v
  | .iload k => len == 2 && decide (q_a a 0 = k)
  | .lload k => len == 2 && decide (q_a a 0 = k)
  | .aload k => len == 2 && decide (q_a a 0 = k)
  | .istore k => len == 2 && decide (q_a a 0 = k)
  | .lstore k => len == 2 && decide (q_a a 0 = k)
  | .astore k => len == 2 && decide (q_a a 0 = k)
  | .iload_n k => len == 1 && decide (q_a a 0 = k)
  | .lload_n k => len == 1 && decide (q_a a 0 = k)
  | .aload_n k => len == 1 && decide (q_a a 0 = k)
  | .istore_n k => len == 1 && decide (q_a a 0 = k)
  | .lstore_n k => len == 1 && decide (q_a a 0 = k)
  | .astore_n k => len == 1 && decide (q_a a 0 = k)
  | .iinc k n => len == 3 && decide (q_a a 0 = k) && decide (n = v) && q_i32 v
  | .goto off => len == 3 && decide ((pc : Int) + off = (q_a a 0 : Int))
  | .ifCond _ off => len == 3 && decide ((pc : Int) + off = (q_a a 0 : Int))
  | .if_icmp _ off => len == 3 && decide ((pc : Int) + off = (q_a a 0 : Int))
  | .tableswitch d lo hi offs => decide ((pc : Int) + d = (q_a a 0 : Int)) && q_tsc pc lo offs.toList a.tail && decide (hi = lo + offs.toList.length - 1) && decide (a ≠ [])
  | .lookupswitch d ps => decide ((pc : Int) + d = (q_a a 0 : Int)) && q_lsc pc ps.toList a.tail && (ps.toList.zip (ps.toList.drop 1)).all (fun (a, next) => a.1 < next.1) && decide (a ≠ [])
  | .ireturn => len == 1 && (if q_a a 0 = 3 then decide (q_rt M = some .boolean) else decide (q_rt M = some .int))
  | .lreturn => len == 1 && decide (q_rt M = some .long)
  | .areturn => len == 1 && (match q_rt M with
    | some (.object _) => true
    | _ => false)
  | .return_ => len == 1 && decide (q_rt M = none)
  | .getfield idx => len == 3 && q_has (q_a ws 0) (.fieldLink (q_own M) idx (q_C (q_a a 0)) (q_T (q_a a 0) (q_a a 1)).2.1 (q_T (q_a a 0) (q_a a 1)).2.2.1) && decide (q_a a 0 < q_ft.length) && decide (q_a a 1 < q_N (q_a a 0)) && decide (q_a a 2 = (q_kd.getD (q_a a 0) []).getD (q_a a 1) 0) && decide ((q_T (q_a a 0) (q_a a 1)).1 = q_C (q_a a 0))
  | .putfield idx => len == 3 && q_has (q_a ws 0) (.fieldLink (q_own M) idx (q_C (q_a a 0)) (q_T (q_a a 0) (q_a a 1)).2.1 (q_T (q_a a 0) (q_a a 1)).2.2.1) && decide (q_a a 0 < q_ft.length) && decide (q_a a 1 < q_N (q_a a 0)) && decide (q_a a 2 = (q_kd.getD (q_a a 0) []).getD (q_a a 1) 0) && decide ((q_T (q_a a 0) (q_a a 1)).1 = q_C (q_a a 0)) &&
      (decide ((q_T (q_a a 0) (q_a a 1)).2.2.2 = false) || (decide ((q_y M).name = "<init>") && decide (q_own M = q_C (q_a a 0))))
  | .new idx => len == 3 && (q_a a 2 == 1 || (decide (q_a a 0 < q_ft.length) && decide (q_a a 1 = q_N (q_a a 0)) && decide (q_a a 2 = 0) && q_has (q_a ws 0) (.classLink (q_own M) idx (q_C (q_a a 0))) && q_has (q_a ws 1) (.instantiable (q_C (q_a a 0)) (q_N (q_a a 0))) && q_has (q_a ws 2) (.initialized (q_C (q_a a 0)))))
  | .newarray t => len == 2 && (match t with
    | .int => decide (q_a a 0 = 0) && q_has (q_a ws 0) (.arrayClass .int)
    | .boolean => decide (q_a a 0 = 1) && q_has (q_a ws 0) (.arrayClass .boolean)
    | .long => decide (q_a a 0 = 2) && q_has (q_a ws 0) (.arrayClass .long)
    | _ => false)
  | .invokestatic idx => len == 3 && (if q_a a 2 = 3
      then q_has (q_a ws 0) (.methodLink (q_own M) idx Lib.Math.max.name) && q_has (q_a ws 1) (.static Lib.Math.max.name) && q_has (q_a ws 2) (.initialized "java/lang/Math") && q_has (q_a ws 3) (.code Lib.Math.max.name Lib.Math.max.code 2 (some .int)) && decide (1 ≤ (q_rm M).1) && decide (21 ≤ (q_rm M).2.1)
      else decide (q_a a 2 = 0) && q_chkC M idx a ws && q_has (q_a ws 3) (.static (q_y (q_a a 0))))
  | .invokevirtual idx => len == 3 && decide (q_a a 2 = 1) && q_chkC M idx a ws && q_has (q_a ws 3) (.instanceMethod (q_y (q_a a 0))) && q_has (q_a ws 4) (.selects (q_C (q_a a 3)) (q_y (q_a a 0)) (q_y (q_a a 0))) && decide (q_a a 3 < q_ft.length)
  | .invokespecial idx => len == 3 && (if q_a a 2 = 2
      then q_has (q_a ws 0) (.methodLink (q_own M) idx Lib.objectInit) && q_has (q_a ws 1) (.instanceMethod Lib.objectInit) && q_has (q_a ws 2) (.code Lib.objectInit ⟨#[0xb1]⟩ 1 none) && decide (1 ≤ (q_rm M).1) && decide (20 ≤ (q_rm M).2.1)
      else decide (q_a a 2 = 1) && q_chkC M idx a ws && q_has (q_a ws 3) (.instanceMethod (q_y (q_a a 0))) && decide ((q_y (q_a a 0)).name = "<init>") && decide (q_rt (q_a a 0) = none) && decide (q_a a 3 < q_ft.length))
  | .iadd | .isub | .imul | .idiv | .irem | .iand | .ladd | .lmul | .land | .lor | .lxor | .lushr | .lshl | .lcmp | .i2l | .dup | .dup2 | .pop | .arraylength | .iaload | .baload | .laload | .iastore | .bastore | .lastore => len == 1
  | _ => false
def q_chk (M : Nat) (e : Nat × qI) (ws : List Nat) : Bool := q_chk2 M e.1 e.2.1 e.2.2.1 e.2.2.2.1 e.2.2.2.2 ws
def q_all (M : Nat) : List (Nat × qI) → List (List Nat) → Bool
  | [], [] => true
  | e :: es, w :: ws => q_chk M e w && q_all M es ws
  | _, _ => false
/-- a method's own code word, its class's name plain -/
def q_chkM (M : Nat) : Bool := decide ((q_y M).cls ≠ "java/lang/invoke/MethodHandle") && decide ((q_y M).cls ≠ "java/lang/invoke/VarHandle") && plainName (q_y M).cls &&
  (if q_mk M = 0 then q_has (q_ci M) (.code (q_y M) (q_b M) (q_nL M) (q_rt M)) else true)
/-- a class: the words that lay it out; its fields' types; their names apart -/
def q_chkF (ci : Nat) : Bool := (List.range (q_N ci)).all fun k => q_has ((q_fw.getD ci []).getD k 0) (u_lay (q_C ci) (q_T ci) k) &&
  decide (q_dk (q_T ci k).2.2.1 = (q_kd.getD ci []).getD k 0) && (parseFieldDescriptor (q_T ci k).2.2.1).isSome &&
  (match (parseFieldDescriptor (q_T ci k).2.2.1) with
    | some .int => decide ((q_kd.getD ci []).getD k 0 = 0)
    | some .boolean => decide ((q_kd.getD ci []).getD k 0 = 3)
    | some (.object _) => decide ((q_kd.getD ci []).getD k 0 = 1)
    | some (.array _) => decide ((q_kd.getD ci []).getD k 0 = 1)
    | _ => false) &&
  (List.range (q_N ci)).all fun j => decide (j = k) || decide ((q_T ci j).2.1 ≠ (q_T ci k).2.1)
