/-! AN ABSTRACT MACHINE: entries at numbers 0, 1, .. (references are these numbers); a step, a run; no heap of the real machine in it -/
abbrev rn_E : Type := (Nat × vp_A) ⊕ (Nat × List Value)
abbrev rn_H : Type := Nat → rn_E
abbrev rn_L : Type := List (Nat × Value)
/-- place in the table, locals, stack, how many entries, how many slots made, the entries -/
abbrev rn_S : Type := Nat × rn_L × List Value × Nat × Nat × rn_H
/-- pc, instruction, the locals kept at it ([]: all), what it needs besides -/
abbrev rn_I : Type := Nat × Instr × List Nat × List Nat
/-- a method: name, bytes, locals, answer, table, (parameters, frames, words, 1: an initialiser) -/
abbrev rn_M : Type := MethodName × ByteArray × Nat × Option FieldType × List rn_I × Nat × Nat × Nat × Nat
def rn_SR : Nat := 1000000
def rn_ci : Nat → Nat → Int32
  | 0, v => Int32.ofNat v
  | _ + 1, v => -(Int32.ofNat v)
def rn_cl : Nat → Nat → Int64
  | 0, v => Int64.ofNat v
  | _ + 1, v => -(Int64.ofNat v)
def rn_lk (i : Nat) : rn_L → Option Value
  | [] => none
  | (j, v) :: t => match Nat.beq j i with
    | true => some v
    | false => rn_lk i t
def rn_fl (i : Nat) (lv : rn_L) : rn_L := lv.filter (fun q => !(q.1 == i) && !(q.1 + 1 == i && q.2.category == 2))
def rn_fm (i : Nat) (lv : rn_L) : rn_L := lv.filter (fun q => !(q.1 == i) && (!(q.1 == i + 1) && !(q.1 + 1 == i && q.2.category == 2)))
def rn_pk (lv : rn_L) : List Nat → rn_L
  | [] => []
  | i :: t => match rn_lk i lv with
    | some v => (i, v) :: rn_pk lv t
    | none => rn_pk lv t
def rn_kp (ks : List Nat) (lv : rn_L) : rn_L := match ks with
  | [] => lv
  | i :: t => rn_pk lv (i :: t)
def rn_cs (st : List Value) : Nat := (st.map fun v => v.category).sum
def rn_ii (f : Int32 → Int32 → Int32) (st : List Value) : Option (List Value) := match st with
  | .int y :: .int x :: r => some (.int (f x y) :: r)
  | _ => none
def rn_id (f : Int32 → Int32 → Int32) (st : List Value) : Option (List Value) := match st with
  | .int y :: .int x :: r => if y = 0 then none else some (.int (f x y) :: r)
  | _ => none
def rn_ll (f : Int64 → Int64 → Int64) (st : List Value) : Option (List Value) := match st with
  | .long y :: .long x :: r => some (.long (f x y) :: r)
  | _ => none
def rn_ld (f : Int64 → Int64 → Int64) (st : List Value) : Option (List Value) := match st with
  | .long y :: .long x :: r => if y = 0 then none else some (.long (f x y) :: r)
  | _ => none
def rn_li (j : Nat) (lv : rn_L) (st : List Value) : Option (List Value) := match rn_lk j lv with
  | some (.int x) => some (.int x :: st)
  | _ => none
def rn_lj (j : Nat) (lv : rn_L) (st : List Value) : Option (List Value) := match rn_lk j lv with
  | some (.long x) => some (.long x :: st)
  | _ => none
def rn_la (j : Nat) (lv : rn_L) (st : List Value) : Option (List Value) := match rn_lk j lv with
  | some (.ref x) => some (.ref x :: st)
  | some .null => some (.null :: st)
  | _ => none
/-- an array of ints (kind 0) or truths (2) read -/
def rn_ai (t : Nat) (h : rn_H) (st : List Value) : Option (List Value) := match st with
  | .int i :: .ref q :: r => match h q with
    | .inl (t1, n, .inl f) => match Nat.beq t1 t with
      | true => if i < 0 ∨ n ≤ i.toNatClampNeg then none else some (.int (f i.toNatClampNeg) :: r)
      | false => none
    | _ => none
  | _ => none
def rn_aj (h : rn_H) (st : List Value) : Option (List Value) := match st with
  | .int i :: .ref q :: r => match h q with
    | .inl (1, n, .inr (.inl f)) => if i < 0 ∨ n ≤ i.toNatClampNeg then none else some (.long (f i.toNatClampNeg) :: r)
    | _ => none
  | _ => none
def rn_aa (t : Nat) (h : rn_H) (st : List Value) : Option (List Value) := match st with
  | .int i :: .ref q :: r => match h q with
    | .inl (t1, n, .inr (.inr (.inr (.inr f)))) => match Nat.beq t1 t with
      | true => if i < 0 ∨ n ≤ i.toNatClampNeg then none else some (va_rf (f i.toNatClampNeg) :: r)
      | false => none
    | _ => none
  | _ => none
def rn_gf (c k : Nat) (h : rn_H) (st : List Value) : Option (List Value) := match st with
  | .ref q :: r => match h q with
    | .inr (c1, fs) => match Nat.beq c1 c with
      | true => match fs[k]? with
        | some v => some (v :: r)
        | none => none
      | false => none
    | _ => none
  | _ => none
/-- the script: how long, its ints -/
abbrev rn_X : Type := Nat × (Nat → Int32)
def rn_sl (X : rn_X) (st : List Value) : Option (List Value) := match st with
  | .int i :: .ref 1000000 :: r => if i < 0 ∨ X.1 ≤ i.toNatClampNeg then none else some (.int (X.2 i.toNatClampNeg) :: r)
  | _ => none
/-- what changes the stack alone -/
def rn_p (X : rn_X) (i : Instr) (ax : List Nat) (lv : rn_L) (st : List Value) (h : rn_H) : Option (List Value) := match i with
  | .iconst _ => match ax with
    | [a, b] => some (.int (rn_ci a b) :: st)
    | _ => none
  | .bipush _ => match ax with
    | [a, b] => some (.int (rn_ci a b) :: st)
    | _ => none
  | .sipush _ => match ax with
    | [a, b] => some (.int (rn_ci a b) :: st)
    | _ => none
  | .lconst _ => match ax with
    | [a, b] => some (.long (rn_cl a b) :: st)
    | _ => none
  | .ldc _ => match ax with
    | [a, b, _] => some (.int (rn_ci a b) :: st)
    | _ => none
  | .ldc2_w _ => match ax with
    | [a, b, _] => some (.long (rn_cl a b) :: st)
    | _ => none
  | .aconst_null => some (.null :: st)
  | .iload j => rn_li j lv st
  | .iload_n j => rn_li j lv st
  | .lload j => rn_lj j lv st
  | .lload_n j => rn_lj j lv st
  | .aload j => rn_la j lv st
  | .aload_n j => rn_la j lv st
  | .iadd => rn_ii (fun x y => x + y) st
  | .isub => rn_ii (fun x y => x - y) st
  | .imul => rn_ii (fun x y => x * y) st
  | .iand => rn_ii (fun x y => x &&& y) st
  | .ior => rn_ii (fun x y => x ||| y) st
  | .ixor => rn_ii (fun x y => x ^^^ y) st
  | .ishl => rn_ii (fun x y => x <<< (y &&& 31)) st
  | .ishr => rn_ii (fun x y => x >>> (y &&& 31)) st
  | .idiv => rn_id (fun x y => x / y) st
  | .irem => rn_id (fun x y => x - x / y * y) st
  | .ladd => rn_ll (fun x y => x + y) st
  | .lsub => rn_ll (fun x y => x - y) st
  | .lmul => rn_ll (fun x y => x * y) st
  | .land => rn_ll (fun x y => x &&& y) st
  | .lor => rn_ll (fun x y => x ||| y) st
  | .ldiv => rn_ld (fun x y => x / y) st
  | .lrem => rn_ld (fun x y => x - x / y * y) st
  | .ineg => match st with
    | .int x :: r => some (.int (-x) :: r)
    | _ => none
  | .lshl => match st with
    | .int y :: .long x :: r => some (.long (x <<< (y.toInt64 &&& 63)) :: r)
    | _ => none
  | .lshr => match st with
    | .int y :: .long x :: r => some (.long (x >>> (y.toInt64 &&& 63)) :: r)
    | _ => none
  | .i2l => match st with
    | .int x :: r => some (.long x.toInt64 :: r)
    | _ => none
  | .l2i => match st with
    | .long x :: r => some (.int x.toInt32 :: r)
    | _ => none
  | .lcmp => match st with
    | .long y :: .long x :: r => some (.int (lg_cmp x y) :: r)
    | _ => none
  | .dup => match st with
    | .int x :: r => some (.int x :: .int x :: r)
    | .ref x :: r => some (.ref x :: .ref x :: r)
    | _ => none
  | .dup2 => match st with
    | .int x :: .ref q :: r => some (.int x :: .ref q :: .int x :: .ref q :: r)
    | _ => none
  | .pop => match st with
    | .int _ :: r => some r
    | _ => none
  | .getfield _ => match ax with
    | [c, k, _] => rn_gf c k h st
    | _ => none
  | .iaload => match ax with
    | [] => rn_ai 0 h st
    | _ => rn_sl X st
  | .baload => rn_ai 2 h st
  | .laload => rn_aj h st
  | .aaload => match ax with
    | [t] => rn_aa t h st
    | _ => none
  | .arraylength => match st with
    | .ref 1000000 :: r => some (.int (Int32.ofNat X.1) :: r)
    | _ => none
  | .invokestatic _ => match ax with
    | [2, _, _, _, _] => match st with
      | .int y :: .int x :: r => if rn_cs r ≤ 8 then some (.int (if x < y then y else x) :: r) else none
      | _ => none
    | _ => none
  | .invokespecial _ => match ax with
    | [3, _, _, _] => match st with
      | .ref _ :: r => if rn_cs r ≤ 8 then some r else none
      | _ => none
    | _ => none
  | _ => none
/-- what changes locals -/
def rn_l (i : Instr) (ax : List Nat) (lv : rn_L) (st : List Value) : Option (rn_L × List Value) := match i with
  | .istore j => match st with
    | .int x :: r => some ((j, .int x) :: rn_fl j lv, r)
    | _ => none
  | .istore_n j => match st with
    | .int x :: r => some (((j : Nat), .int x) :: rn_fl j lv, r)
    | _ => none
  | .lstore j => match st with
    | .long x :: r => some ((j, .long x) :: rn_fm j lv, r)
    | _ => none
  | .lstore_n j => match st with
    | .long x :: r => some (((j : Nat), .long x) :: rn_fm j lv, r)
    | _ => none
  | .astore j => match st with
    | .ref x :: r => some ((j, .ref x) :: rn_fl j lv, r)
    | _ => none
  | .astore_n j => match st with
    | .ref x :: r => some (((j : Nat), .ref x) :: rn_fl j lv, r)
    | .null :: r => some (((j : Nat), .null) :: rn_fl j lv, r)
    | _ => none
  | .iinc j _ => match ax with
    | [a, b] => match rn_lk j lv with
      | some (.int x) => some ((j, .int (x + rn_ci a b)) :: rn_fl j lv, st)
      | _ => none
    | _ => none
  | _ => none
def rn_st (ts : List Nat) (lo : Int) (x : Int32) (d : Nat) : Nat := match ts with
  | [] => d
  | t :: r => if x = Int32.ofInt lo then t else rn_st r (lo + 1) x d
def rn_sk (ks : List (Int × Int)) (ts : List Nat) (x : Int32) (d : Nat) : Nat := match ks, ts with
  | k :: kr, t :: tr => if x = Int32.ofInt k.1 then t else rn_sk kr tr x d
  | _, _ => d
/-- where it goes on: k the place behind it -/
def rn_b (i : Instr) (ax : List Nat) (k : Nat) (st : List Value) : Option (Nat × List Value) := match ax with
  | [] => none
  | t :: ts => match i with
    | .goto _ => some (t, st)
    | .ifCond c _ => match st with
      | .int x :: r => match c with
        | .eq => some (if x = 0 then t else k, r)
        | .ne => some (if x = 0 then k else t, r)
        | .lt => some (if x < 0 then t else k, r)
        | .ge => some (if 0 ≤ x then t else k, r)
        | .gt => some (if 0 < x then t else k, r)
        | .le => some (if x ≤ 0 then t else k, r)
      | _ => none
    | .if_icmp c _ => match st with
      | .int y :: .int x :: r => match c with
        | .eq => some (if x = y then t else k, r)
        | .ne => some (if x = y then k else t, r)
        | .lt => some (if x < y then t else k, r)
        | .ge => some (if y ≤ x then t else k, r)
        | .gt => some (if y < x then t else k, r)
        | .le => some (if x ≤ y then t else k, r)
      | _ => none
    | .ifnull _ => match st with
      | .ref _ :: r => some (k, r)
      | .null :: r => some (t, r)
      | _ => none
    | .ifnonnull _ => match st with
      | .ref _ :: r => some (t, r)
      | .null :: r => some (k, r)
      | _ => none
    | .tableswitch _ lo _ _ => match st with
      | .int x :: r => some (rn_st ts lo x t, r)
      | _ => none
    | .lookupswitch _ ps => match st with
      | .int x :: r => some (rn_sk ps.toList ts x t, r)
      | _ => none
    | _ => none
/-- a value that a field of that type (0 int, 1 a truth, 2 a reference) can take -/
def rn_ty (ty : Nat) (v : Value) : Bool := match v with
  | .int x => match ty with
    | 0 => true
    | 1 => decide (x = 0) || decide (x = 1)
    | _ => false
  | .ref _ => Nat.beq ty 2
  | .null => Nat.beq ty 2
  | _ => false
def rn_up (h : rn_H) (q : Nat) (e : rn_E) : rn_H := fun j => match Nat.beq j q with
  | true => e
  | false => h j
/-- what writes entries -/
def rn_w (i : Instr) (ax : List Nat) (st : List Value) (h : rn_H) : Option (List Value × rn_H) := match i with
  | .putfield _ => match ax with
    | [c, k, ty, _] => match st with
      | v :: .ref q :: r => match h q with
        | .inr (c1, fs) => match Nat.beq c1 c with
          | true => match rn_ty ty v with
            | true => match Nat.blt k fs.length with
              | true => some (r, rn_up h q (.inr (c1, fs.set k v)))
              | false => none
            | false => none
          | false => none
        | _ => none
      | _ => none
    | _ => none
  | .iastore => match st with
    | .int x :: .int i :: .ref q :: r => match h q with
      | .inl (0, n, .inl f) => if i < 0 ∨ n ≤ i.toNatClampNeg then none else some (r, rn_up h q (.inl (0, n, .inl (upd f i.toNatClampNeg x))))
      | _ => none
    | _ => none
  | .bastore => match st with
    | .int x :: .int i :: .ref q :: r => match h q with
      | .inl (2, n, .inl f) => if i < 0 ∨ n ≤ i.toNatClampNeg then none else if x = 0 ∨ x = 1 then some (r, rn_up h q (.inl (2, n, .inl (upd f i.toNatClampNeg x)))) else none
      | _ => none
    | _ => none
  | .lastore => match st with
    | .long x :: .int i :: .ref q :: r => match h q with
      | .inl (1, n, .inr (.inl f)) => if i < 0 ∨ n ≤ i.toNatClampNeg then none else some (r, rn_up h q (.inl (1, n, .inr (.inl (vp_updL f i.toNatClampNeg x)))))
      | _ => none
    | _ => none
  | .aastore => match ax with
    | [t, c] => match st with
      | .ref v :: .int i :: .ref q :: r => match h q with
        | .inl (t1, n, .inr (.inr (.inr (.inr f)))) => match Nat.beq t1 t with
          | true => match h v with
            | .inr (c1, _) => match Nat.beq c1 c with
              | true => if i < 0 ∨ n ≤ i.toNatClampNeg then none else some (r, rn_up h q (.inl (t1, n, .inr (.inr (.inr (.inr (va_up f i.toNatClampNeg (some v))))))))
              | false => none
            | _ => none
          | false => none
        | _ => none
      | _ => none
    | _ => none
  | .invokestatic _ => match ax with
    | [1, t, _, _, _, _] => match st with
      | .int n :: .int dp :: .ref a :: .int sp :: .ref a0 :: r => if sp < 0 ∨ dp < 0 ∨ n < 0 ∨ 8 < rn_cs r then none else match t with
        | 0 => match h a0, h a with
          | .inl (0, n0, .inl f), .inl (0, n1, .inl g) => if sp.toNatClampNeg + n.toNatClampNeg ≤ n0 ∧ dp.toNatClampNeg + n.toNatClampNeg ≤ n1 then some (r, rn_up h a (.inl (0, n1, .inl (va_cpy f g sp.toNatClampNeg dp.toNatClampNeg n.toNatClampNeg)))) else none
          | _, _ => none
        | 1 => match h a0, h a with
          | .inl (1, n0, .inr (.inl f)), .inl (1, n1, .inr (.inl g)) => if sp.toNatClampNeg + n.toNatClampNeg ≤ n0 ∧ dp.toNatClampNeg + n.toNatClampNeg ≤ n1 then some (r, rn_up h a (.inl (1, n1, .inr (.inl (va_cpy f g sp.toNatClampNeg dp.toNatClampNeg n.toNatClampNeg))))) else none
          | _, _ => none
        | _ => none
      | _ => none
    | _ => none
  | _ => none
def rn_z (t n : Nat) : rn_E := match t with
  | 0 => .inl (0, n, .inl (fun _ => 0))
  | 1 => .inl (1, n, .inr (.inl (fun _ => 0)))
  | 2 => .inl (2, n, .inl (fun _ => 0))
  | t + 3 => .inl (t + 3, n, .inr (.inr (.inr (.inr (fun _ => none)))))
/-- what makes an entry: it, how many slots it has -/
def rn_a (dv : Nat → List Value) (i : Instr) (ax : List Nat) (st : List Value) : Option (List Value × rn_E × Nat) := match i with
  | .new _ => match ax with
    | [c, n, _, _, _] => some (st, .inr (c, dv c), n)
    | _ => none
  | .newarray _ => match ax with
    | [t, _] => match st with
      | .int n :: r => if n < 0 ∨ 1000000 < n.toNatClampNeg then none else some (r, rn_z t n.toNatClampNeg, n.toNatClampNeg)
      | _ => none
    | _ => none
  | .anewarray _ => match ax with
    | [t, _, _] => match st with
      | .int n :: r => if n < 0 ∨ 1000000 < n.toNatClampNeg then none else some (r, rn_z t n.toNatClampNeg, n.toNatClampNeg)
      | _ => none
    | _ => none
  | _ => none
/-- a value that lies within the first N entries -/
def rn_cv (N : Nat) (v : Value) : Bool := match v with
  | .ref a => Nat.blt a N || Nat.beq a 1000000
  | _ => true
def rn_sp (X : rn_X) (dv : Nat → List Value) (e : rn_I) (s : rn_S) : Option rn_S := match e, s with
  | (_, i, _, ax), (k, lv, st, N, sl, h) => match rn_p X i ax lv st h with
    | some st1 => some (k + 1, lv, st1, N, sl, h)
    | none => match rn_b i ax (k + 1) st with
      | some (k1, st1) => some (k1, lv, st1, N, sl, h)
      | none => match rn_l i ax lv st with
        | some (lv1, st1) => some (k + 1, lv1, st1, N, sl, h)
        | none => match rn_w i ax st h with
          | some (st1, h1) => some (k + 1, lv, st1, N, sl, h1)
          | none => match rn_a dv i ax st with
            | some (st1, z, n) => match Nat.blt N 1000000 with
              | true => some (k + 1, lv, .ref N :: st1, N + 1, sl + n, rn_up h N z)
              | false => none
            | none => none
/-- the answer at a return: none, or a value -/
def rn_rt (i : Instr) (rt : Option FieldType) (st : List Value) : Option (Option Value) := match i with
  | .return_ => match st, rt with
    | [], none => some none
    | _, _ => none
  | .ireturn => match st, rt with
    | [.int x], some .int => some (some (.int x))
    | [.int x], some .boolean => if x = 0 ∨ x = 1 then some (some (.int x)) else none
    | _, _ => none
  | .lreturn => match st, rt with
    | [.long x], some .long => some (some (.long x))
    | _, _ => none
  | .areturn => match st, rt with
    | [.ref x], some (.object _) => some (some (.ref x))
    | _, _ => none
  | _ => none
/-- a call: the method, whether it has a receiver, its class' number -/
def rn_cc (i : Instr) (ax : List Nat) : Option (Nat × Bool × Nat) := match i with
  | .invokevirtual _ => match ax with
    | 0 :: z :: c :: _ => some (z, true, c)
    | _ => none
  | .invokespecial _ => match ax with
    | 0 :: z :: c :: _ => some (z, true, c)
    | 4 :: z :: c :: _ => some (z, true, c)
    | _ => none
  | .invokestatic _ => match ax with
    | 0 :: z :: c :: _ => some (z, false, c)
    | 4 :: z :: c :: _ => some (z, false, c)
    | _ => none
  | _ => none
/-- a receiver is an object of that class -/
def rn_rc (h : rn_H) (c : Nat) (as : List Value) : Bool := match as with
  | .ref q :: _ => match h q with
    | .inr (c1, _) => Nat.beq c1 c
    | _ => false
  | _ => false
def rn_x (X : rn_X) (dv : Nat → List Value) (ms : Nat → Option rn_M) : Nat → Nat → rn_S → Option (Option Value × Nat × Nat × rn_H)
  | 0, _, _ => none
  | f + 1, y, (k, lv, st, N, sl, h) => match ms y with
    | none => none
    | some (_, _, _, rt, T, _, fr, lo, _) => match T[k]? with
      | none => none
      | some e => match rn_sp X dv e (k, rn_kp e.2.2.1 lv, st, N, sl, h) with
        | some s => rn_x X dv ms f y s
        | none => match rn_rt e.2.1 rt st with
          | some v => some (v, N, sl, h)
          | none => match rn_cc e.2.1 e.2.2.2 with
            | none => none
            | some (z, b, c) => match ms z with
              | none => none
              | some (_, _, mL, _, _, n, fr2, lo2, _) => match Nat.ble (fr2 + 1) fr && Nat.ble (19 + mL + lo2) lo && Nat.ble (n + (bif b then 1 else 0)) st.length && Nat.ble (rn_cs (st.drop (n + (bif b then 1 else 0)))) 8 && Nat.ble (rn_cs (st.take (n + (bif b then 1 else 0)))) mL && (!b || rn_rc h c (st.take (n + 1)).reverse) with
                | false => none
                | true => match rn_x X dv ms f z (0, lv_args 0 (st.take (n + (bif b then 1 else 0))).reverse, [], N, sl, h) with
                  | none => none
                  | some (v, N1, sl1, h1) => rn_x X dv ms f y (k + 1, rn_kp e.2.2.1 lv, v.toList ++ st.drop (n + (bif b then 1 else 0)), N1, sl1, h1)
