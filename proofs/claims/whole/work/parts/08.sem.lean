/-! ===== the abstract machine: its steps ===== -/
def gK (g : aG) : Nat → Nat := g.1
def gN (g : aG) : Nat → Nat := g.2.1
def gR (g : aG) : Nat → Nat → Nat := g.2.2.1
def gx (g : aG) : Nat := g.2.2.2.1
def gs (g : aG) : Nat := g.2.2.2.2
def u1 {α : Type} (f : Nat → α) (a : Nat) (v : α) : Nat → α := fun b => if b = a then v else f b
def u2 {α : Type} (f : Nat → Nat → α) (a k : Nat) (v : α) : Nat → Nat → α := fun b j => if b = a ∧ j = k then v else f b j
def z2 {α : Type} (f : Nat → Nat → α) (a : Nat) (v : α) : Nat → Nat → α := fun b j => if b = a then v else f b j
def gput (g : aG) (a k b : Nat) : aG := (g.1, g.2.1, u2 g.2.2.1 a k b, g.2.2.2.1, g.2.2.2.2)
def gnew (g : aG) (kd n : Nat) : aG := (u1 g.1 g.2.2.2.1 kd, u1 g.2.1 g.2.2.2.1 n, z2 g.2.2.1 g.2.2.2.1 0, g.2.2.2.1 + 1, g.2.2.2.2 + n)
def a_alc (h : aH) (kd n : Nat) : aH := (gnew h.1 kd n, z2 h.2.1 (gx h.1) 0, z2 h.2.2 (gx h.1) 0)
/-- rows of n by m: the outer one at the next place, the inner ones behind it -/
def gmul (g : aG) (kd ki n m : Nat) : aG :=
  (fun a => if a = gx g then kd else if gx g < a ∧ a ≤ gx g + n then ki else gK g a,
   fun a => if a = gx g then n else if gx g < a ∧ a ≤ gx g + n then m else gN g a,
   fun a j => if a = gx g then (if j < n then gx g + 1 + j else 0) else if gx g < a ∧ a ≤ gx g + n then 0 else gR g a j,
   gx g + 1 + n, gs g + n + n * m)
def zm {α : Type} (f : Nat → Nat → α) (x n : Nat) (v : α) : Nat → Nat → α := fun b j => if x ≤ b ∧ b ≤ x + n then v else f b j
def a_mul (h : aH) (kd ki n m : Nat) : aH := (gmul h.1 kd ki n m, zm h.2.1 (gx h.1) n 0, zm h.2.2 (gx h.1) n 0)
def cpy2 (f : Nat → Nat → Int32) (s sp d dp n : Nat) : Nat → Nat → Int32 := fun b j => if b = d ∧ dp ≤ j ∧ j < dp + n then f s (sp + (j - dp)) else f b j
def row2 (f : Nat → Nat → Int32) (d s : Nat) (n : Nat) : Nat → Nat → Int32 := fun b j => if b = d then (if j < n then f s j else 0) else f b j
/-- what is known of no local -/
def aU : Value := .retAddr 0
def a_kill (L : List Value) (ks : List Nat) : List Value := ks.foldl (fun L k => L.set k aU) L
/-- the local ahead is no long -/
def a_nl (L : List Value) (p : Nat) : Bool := match p with
  | 0 => true
  | j + 1 => Nat.beq (L.getD j aU).category 1
def a_arr (k : Nat) : Bool := (Nat.ble 12 k && Nat.ble k 18) || Nat.beq k 20
def a_words : List Nat := "figure beat helper other x y deep sticks to at off pass slip bars if or and not ".toList.map Char.toNat
def a_ret (t : Nat) (v : Option Value) (kk : List Value → Prop) : Prop := match t with
  | 0 => v = none ∧ kk []
  | 1 => ∃ i : Int32, v = some (.int i) ∧ kk [.int i]
  | _ => ∃ i : Int64, v = some (.long i) ∧ kk [.long i]
def a_sw (v : Int32) (d : Nat) (k : Nat → Prop) : List (Int32 × Nat) → Prop
  | [] => k d
  | (c, t) :: r => if v = c then k t else a_sw v d k r
def a_bin (st : List Value) (f : Int32 → Int32 → Int32) (k : List Value → Prop) : Prop := match st with
  | .int b :: .int a :: r => k (.int (f a b) :: r)
  | _ => False
def a_binL (st : List Value) (f : Int64 → Int64 → Int64) (k : List Value → Prop) : Prop := match st with
  | .long b :: .long a :: r => k (.long (f a b) :: r)
  | _ => False
def a_binS (st : List Value) (f : Int64 → Int32 → Int64) (k : List Value → Prop) : Prop := match st with
  | .int b :: .long a :: r => k (.long (f a b) :: r)
  | _ => False
def a_loadI (L st : List Value) (p : Nat) (k : List Value → Prop) : Prop := match L.getD p aU with
  | .int v => k (.int v :: st)
  | _ => False
def a_loadL (L st : List Value) (p : Nat) (k : List Value → Prop) : Prop := match L.getD p aU with
  | .long v => k (.long v :: st)
  | _ => False
def a_loadA (L st : List Value) (p : Nat) (k : List Value → Prop) : Prop := match L.getD p aU with
  | .ref v => k (.ref v :: st)
  | _ => False
def a_stoI (L st : List Value) (p : Nat) (k : List Value → List Value → Prop) : Prop := match st with
  | .int v :: r => (match a_nl L p with
    | true => k (L.set p (.int v)) r
    | false => False)
  | _ => False
def a_stoL (L st : List Value) (p : Nat) (k : List Value → List Value → Prop) : Prop := match st with
  | .long v :: r => (match a_nl L p with
    | true => k ((L.set p (.long v)).set (p + 1) aU) r
    | false => False)
  | _ => False
def a_stoA (L st : List Value) (p : Nat) (k : List Value → List Value → Prop) : Prop := match st with
  | .ref v :: r => (match a_nl L p with
    | true => k (L.set p (.ref v)) r
    | false => False)
  | _ => False
def a_if (c : ClassFile.Cond) (a b : Int32) (kt kf : Prop) : Prop := match c with
  | .eq => if a = b then kt else kf
  | .ne => if a = b then kf else kt
  | .lt => if a < b then kt else kf
  | .ge => if a < b then kf else kt
  | .gt => if b < a then kt else kf
  | .le => if b < a then kf else kt
def a_call1 (cf : aCF) (x : aI) (nr : Bool) (st : List Value) (h : aH) (k : List Value → aH → Prop) : Prop := match x with
  | (_, _, p, q, t, _, _, _, _) =>
    match nr with
    | true => (match Nat.ble (q / 100) st.length with
      | true => cf p (st.take (q / 100)).reverse h (fun v h2 => a_ret t v (fun w => k (w ++ st.drop (q / 100)) h2))
      | false => False)
    | false => match st.drop (q / 100 - 1) with
      | .ref a :: _ => (gK h.1 a = q % 100) ∧ (match Nat.ble (q / 100) st.length with
        | true => cf p (st.take (q / 100)).reverse h (fun v h2 => a_ret t v (fun w => k (w ++ st.drop (q / 100)) h2))
        | false => False)
      | _ => False
/-- what the JDK does by itself: 10 Object's constructor, 11 arraycopy of ints, 12 clone of a row of ints, 13 length, 14 charAt of the words; Math: 15 min, 16 max of ints, 17 min, 18 max of longs, 19 abs -/
def a_prim (t : Nat) (st : List Value) (h : aH) (k : List Value → aH → Prop) : Prop := match t with
  | 10 => (match st with
    | .ref a :: r => (gK h.1 a ≤ 11) ∧ k r h
    | _ => False)
  | 11 => (match st with
    | .int n :: .int dp :: .ref d :: .int sp :: .ref s :: r => (gK h.1 s = 12 ∧ gK h.1 d = 12) ∧ (¬ n < 0 ∧ ¬ dp < 0 ∧ ¬ sp < 0) ∧ (sp.toNatClampNeg + n.toNatClampNeg ≤ gN h.1 s ∧ dp.toNatClampNeg + n.toNatClampNeg ≤ gN h.1 d) ∧
        k r (h.1, cpy2 h.2.1 s sp.toNatClampNeg d dp.toNatClampNeg n.toNatClampNeg, h.2.2)
    | _ => False)
  | 12 => (match st with
    | .ref a :: r => (gK h.1 a = 20 ∧ a = 4) ∧ k (.ref (gx h.1) :: r) (gnew h.1 12 (gN h.1 a), row2 h.2.1 (gx h.1) a (gN h.1 a), z2 h.2.2 (gx h.1) 0)
    | _ => False)
  | 13 => (match st with
    | .ref a :: r => (a = 5) ∧ k (.int (Int32.ofNat a_words.length) :: r) h
    | _ => False)
  | 14 => (match st with
    | .int i :: .ref a :: r => (a = 5) ∧ vp_in i a_words.length ∧ k (.int (Int32.ofNat (a_words.getD i.toNatClampNeg 0)) :: r) h
    | _ => False)
  | 15 => a_bin st (fun a b => if b < a then b else a) (fun st2 => k st2 h)
  | 16 => a_bin st (fun a b => if a < b then b else a) (fun st2 => k st2 h)
  | 17 => a_binL st (fun a b => if b < a then b else a) (fun st2 => k st2 h)
  | 18 => a_binL st (fun a b => if b < a then a else b) (fun st2 => k st2 h)
  | 19 => (match st with
    | .int a :: r => k (.int (if 0 ≤ a then a else 0 - a) :: r) h
    | _ => False)
  | _ => False
/-- no more than eight words lie below -/
def a_s8 (st : List Value) (n : Nat) : Bool := Nat.ble ((st.drop n).map Value.category).sum 8
def a_inv (cf : aCF) (x : aI) (nr : Bool) (st : List Value) (h : aH) (k : List Value → aH → Prop) : Prop := match x with
  | (_, _, _, q, t, _, _, _, _) =>
    match a_s8 st (q / 100) with
    | false => False
    | true => match t with
      | 0 => a_call1 cf x nr st h k
      | 1 => a_call1 cf x nr st h k
      | 2 => a_call1 cf x nr st h k
      | t => a_prim t st h k
def a_put (x : aI) (st : List Value) (h : aH) (k : List Value → aH → Prop) : Prop := match x with
  | (_, _, p, q, t, _, _, _, _) =>
    match t with
    | 0 => (match st with
      | .int v :: .ref a :: r => (gK h.1 a = p) ∧ k r (h.1, u2 h.2.1 a q v, h.2.2)
      | _ => False)
    | 1 => (match st with
      | .int v :: .ref a :: r => (gK h.1 a = p) ∧ (v = 0 ∨ v = 1) ∧ k r (h.1, u2 h.2.1 a q v, h.2.2)
      | _ => False)
    | 2 => (match st with
      | .long v :: .ref a :: r => (gK h.1 a = p) ∧ k r (h.1, h.2.1, u2 h.2.2 a q v)
      | _ => False)
    | _ => (match st with
      | .ref v :: .ref a :: r => (gK h.1 a = p) ∧ k r (gput h.1 a q v, h.2.1, h.2.2)
      | _ => False)
def a_get (x : aI) (st : List Value) (h : aH) (k : List Value → Prop) : Prop := match x with
  | (_, _, p, q, t, _, _, _, _) =>
    match st with
    | .ref a :: r => (gK h.1 a = p) ∧ (match t with
      | 0 => k (.int (h.2.1 a q) :: r)
      | 1 => k (.int (h.2.1 a q) :: r)
      | 2 => k (.long (h.2.2 a q) :: r)
      | _ => k (.ref (gR h.1 a q) :: r))
    | _ => False
def a_ins (cf : aCF) (x : aI) (L st : List Value) (h : aH) (k : aK) (Q : aQ) : Prop := match x with
  | (i, nx, p, q, t, ci, cl, _, sw) => match i with
    | .iconst _ => k nx L (.int ci :: st) h
    | .bipush _ => k nx L (.int ci :: st) h
    | .sipush _ => k nx L (.int ci :: st) h
    | .ldc _ => (match t with
      | 0 => k nx L (.int ci :: st) h
      | _ => k nx L (.ref 5 :: st) h)
    | .ldc_w _ => k nx L (.int ci :: st) h
    | .lconst _ => k nx L (.long cl :: st) h
    | .ldc2_w _ => k nx L (.long cl :: st) h
    | .aconst_null => k nx L (.ref 0 :: st) h
    | .iload _ => a_loadI L st p (fun st2 => k nx L st2 h)
    | .iload_n _ => a_loadI L st p (fun st2 => k nx L st2 h)
    | .lload _ => a_loadL L st p (fun st2 => k nx L st2 h)
    | .lload_n _ => a_loadL L st p (fun st2 => k nx L st2 h)
    | .aload _ => a_loadA L st p (fun st2 => k nx L st2 h)
    | .aload_n _ => a_loadA L st p (fun st2 => k nx L st2 h)
    | .istore _ => a_stoI L st p (fun L2 st2 => k nx L2 st2 h)
    | .istore_n _ => a_stoI L st p (fun L2 st2 => k nx L2 st2 h)
    | .lstore _ => a_stoL L st p (fun L2 st2 => k nx L2 st2 h)
    | .lstore_n _ => a_stoL L st p (fun L2 st2 => k nx L2 st2 h)
    | .astore _ => a_stoA L st p (fun L2 st2 => k nx L2 st2 h)
    | .astore_n _ => a_stoA L st p (fun L2 st2 => k nx L2 st2 h)
    | .iinc _ _ => (match L.getD p aU with
      | .int v => (match a_nl L p with
        | true => k nx (L.set p (.int (v + ci))) st h
        | false => False)
      | _ => False)
    | .dup => (match st with
      | .int v :: r => k nx L (.int v :: .int v :: r) h
      | .ref v :: r => k nx L (.ref v :: .ref v :: r) h
      | _ => False)
    | .dup2 => (match st with
      | .int v :: .ref a :: r => k nx L (.int v :: .ref a :: .int v :: .ref a :: r) h
      | _ => False)
    | .iadd => a_bin st (fun a b => a + b) (fun st2 => k nx L st2 h)
    | .isub => a_bin st (fun a b => a - b) (fun st2 => k nx L st2 h)
    | .imul => a_bin st (fun a b => a * b) (fun st2 => k nx L st2 h)
    | .iand => a_bin st (fun a b => a &&& b) (fun st2 => k nx L st2 h)
    | .ior => a_bin st (fun a b => a ||| b) (fun st2 => k nx L st2 h)
    | .ixor => a_bin st (fun a b => a ^^^ b) (fun st2 => k nx L st2 h)
    | .ishl => a_bin st (fun a b => a <<< (b &&& 31)) (fun st2 => k nx L st2 h)
    | .ishr => a_bin st (fun a b => a >>> (b &&& 31)) (fun st2 => k nx L st2 h)
    | .iushr => a_bin st (fun a b => (a.toUInt32 >>> (b.toUInt32 &&& Int32.toUInt32 31)).toInt32) (fun st2 => k nx L st2 h)
    | .idiv => (match st with
      | .int b :: .int a :: r => (¬ b = 0) ∧ k nx L (.int (a / b) :: r) h
      | _ => False)
    | .irem => (match st with
      | .int b :: .int a :: r => (¬ b = 0) ∧ k nx L (.int (a - a / b * b) :: r) h
      | _ => False)
    | .ineg => (match st with
      | .int a :: r => k nx L (.int (-a) :: r) h
      | _ => False)
    | .ladd => a_binL st (fun a b => a + b) (fun st2 => k nx L st2 h)
    | .lsub => a_binL st (fun a b => a - b) (fun st2 => k nx L st2 h)
    | .lmul => a_binL st (fun a b => a * b) (fun st2 => k nx L st2 h)
    | .land => a_binL st (fun a b => a &&& b) (fun st2 => k nx L st2 h)
    | .lor => a_binL st (fun a b => a ||| b) (fun st2 => k nx L st2 h)
    | .lxor => a_binL st (fun a b => a ^^^ b) (fun st2 => k nx L st2 h)
    | .ldiv => (match st with
      | .long b :: .long a :: r => (¬ b = 0) ∧ k nx L (.long (a / b) :: r) h
      | _ => False)
    | .lrem => (match st with
      | .long b :: .long a :: r => (¬ b = 0) ∧ k nx L (.long (a - a / b * b) :: r) h
      | _ => False)
    | .lshl => a_binS st (fun a b => a <<< (b.toInt64 &&& 63)) (fun st2 => k nx L st2 h)
    | .lshr => a_binS st (fun a b => a >>> (b.toInt64 &&& 63)) (fun st2 => k nx L st2 h)
    | .lushr => a_binS st (fun a b => (a.toUInt64 >>> (b.toInt64.toUInt64 &&& Int64.toUInt64 63)).toInt64) (fun st2 => k nx L st2 h)
    | .lcmp => (match st with
      | .long b :: .long a :: r => k nx L (.int (lg_cmp a b) :: r) h
      | _ => False)
    | .i2l => (match st with
      | .int a :: r => k nx L (.long a.toInt64 :: r) h
      | _ => False)
    | .l2i => (match st with
      | .long a :: r => k nx L (.int a.toInt32 :: r) h
      | _ => False)
    | .goto _ => k p L st h
    | .ifCond c _ => (match st with
      | .int a :: r => a_if c a 0 (k p L r h) (k nx L r h)
      | _ => False)
    | .if_icmp c _ => (match st with
      | .int b :: .int a :: r => a_if c a b (k p L r h) (k nx L r h)
      | _ => False)
    | .ifnull _ => (match st with
      | .ref a :: r => if a = 0 then k p L r h else k nx L r h
      | _ => False)
    | .ifnonnull _ => (match st with
      | .ref a :: r => if a = 0 then k nx L r h else k p L r h
      | _ => False)
    | .tableswitch _ _ _ _ => (match st with
      | .int v :: r => a_sw v p (fun tg => k tg L r h) sw
      | _ => False)
    | .getfield _ => a_get x st h (fun st2 => k nx L st2 h)
    | .putfield _ => a_put x st h (fun st2 h2 => k nx L st2 h2)
    | .getstatic _ => k nx L (.ref p :: st) h
    | .iaload => (match st with
      | .int i :: .ref a :: r => (gK h.1 a = 12 ∨ gK h.1 a = 20) ∧ vp_in i (gN h.1 a) ∧ k nx L (.int (h.2.1 a i.toNatClampNeg) :: r) h
      | _ => False)
    | .iastore => (match st with
      | .int v :: .int i :: .ref a :: r => (gK h.1 a = 12) ∧ vp_in i (gN h.1 a) ∧ k nx L r (h.1, u2 h.2.1 a i.toNatClampNeg v, h.2.2)
      | _ => False)
    | .laload => (match st with
      | .int i :: .ref a :: r => (gK h.1 a = 13) ∧ vp_in i (gN h.1 a) ∧ k nx L (.long (h.2.2 a i.toNatClampNeg) :: r) h
      | _ => False)
    | .lastore => (match st with
      | .long v :: .int i :: .ref a :: r => (gK h.1 a = 13) ∧ vp_in i (gN h.1 a) ∧ k nx L r (h.1, h.2.1, u2 h.2.2 a i.toNatClampNeg v)
      | _ => False)
    | .baload => (match st with
      | .int i :: .ref a :: r => (gK h.1 a = 14) ∧ vp_in i (gN h.1 a) ∧ k nx L (.int (h.2.1 a i.toNatClampNeg) :: r) h
      | _ => False)
    | .bastore => (match st with
      | .int v :: .int i :: .ref a :: r => (gK h.1 a = 14) ∧ vp_in i (gN h.1 a) ∧ (v = 0 ∨ v = 1) ∧ k nx L r (h.1, u2 h.2.1 a i.toNatClampNeg v, h.2.2)
      | _ => False)
    | .aaload => (match st with
      | .int i :: .ref a :: r => (gK h.1 a = p) ∧ vp_in i (gN h.1 a) ∧ k nx L (.ref (gR h.1 a i.toNatClampNeg) :: r) h
      | _ => False)
    | .aastore => (match st with
      | .ref v :: .int i :: .ref a :: r => (gK h.1 a = p) ∧ (gK h.1 v = q) ∧ vp_in i (gN h.1 a) ∧ k nx L r (gput h.1 a i.toNatClampNeg v, h.2.1, h.2.2)
      | _ => False)
    | .arraylength => (match st with
      | .ref a :: r => (a_arr (gK h.1 a) = true) ∧ k nx L (.int (Int32.ofNat (gN h.1 a)) :: r) h
      | _ => False)
    | .new _ => k nx L (.ref (gx h.1) :: st) (a_alc h p q)
    | .newarray _ => (match st with
      | .int n :: r => (¬ n < 0) ∧ (n.toNatClampNeg ≤ 1000000) ∧ k nx L (.ref (gx h.1) :: r) (a_alc h p n.toNatClampNeg)
      | _ => False)
    | .anewarray _ => (match st with
      | .int n :: r => (¬ n < 0) ∧ (n.toNatClampNeg ≤ 1000000) ∧ k nx L (.ref (gx h.1) :: r) (a_alc h p n.toNatClampNeg)
      | _ => False)
    | .multianewarray _ _ => (match st with
      | .int m :: .int n :: r => (¬ n < 0 ∧ ¬ m < 0) ∧ (n.toNatClampNeg ≤ 1000000 ∧ m.toNatClampNeg ≤ 1000000) ∧ k nx L (.ref (gx h.1) :: r) (a_mul h p q n.toNatClampNeg m.toNatClampNeg)
      | _ => False)
    | .checkcast _ => (match st with
      | .ref a :: r => (gK h.1 a = p) ∧ k nx L (.ref a :: r) h
      | _ => False)
    | .invokevirtual _ => a_inv cf x false st h (fun st2 h2 => k nx L st2 h2)
    | .invokespecial _ => a_inv cf x false st h (fun st2 h2 => k nx L st2 h2)
    | .invokestatic _ => a_inv cf x true st h (fun st2 h2 => k nx L st2 h2)
    | .ireturn => (match st with
      | [.int v] => (match t with
        | 0 => Q (some (.int v)) h
        | _ => (v = 0 ∨ v = 1) ∧ Q (some (.int v)) h)
      | _ => False)
    | .lreturn => (match st with
      | [.long v] => Q (some (.long v)) h
      | _ => False)
    | .return_ => (match st with
      | [] => Q none h
      | _ => False)
    | _ => False
/-- the locals at a method's entry -/
def a_sl : List Value → List Value
  | [] => []
  | .long v :: r => .long v :: aU :: a_sl r
  | v :: r => v :: a_sl r
/-- the arguments have their places, and none is a double -/
def a_fit2 (n : Nat) (as : List Value) : Bool := Nat.ble (a_sl as).length n && as.all (fun v => match v with
  | .double _ => false
  | _ => true)
section AM
variable (tab : Nat → Nat → Option aI) (mx : Nat → Nat)
def a_run (cf : aCF) (mi : Nat) : Nat → Nat → List Value → List Value → aH → aK → aQ → Prop
  | 0, pc, L, st, h, k, _ => k pc L st h
  | n + 1, pc, L, st, h, k, Q => match tab mi pc with
    | none => False
    | some x => a_ins cf x (a_kill L x.2.2.2.2.2.2.2.1) st h (fun pc2 L2 st2 h2 => a_run cf mi n pc2 L2 st2 h2 k Q) Q
def a_entry (mi : Nat) (as : List Value) : List Value := a_sl as ++ List.replicate (mx mi - (a_sl as).length) aU
def a_call : Nat → aCF
  | 0, _, _, _, _ => False
  | d + 1, mi, as, h, Q => a_fit2 (mx mi) as = true ∧ ∃ n, a_run tab (a_call d) mi n 0 (a_entry mx mi as) [] h (fun _ _ _ _ => False) Q
def a_wp (d mi pc : Nat) (L st : List Value) (h : aH) (Q : aQ) : Prop := ∃ n, a_run tab (a_call tab mx d) mi n pc L st h (fun _ _ _ _ => False) Q
end AM
