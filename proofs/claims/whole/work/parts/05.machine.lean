/-! A SMALL MACHINE over numbered cells. A reference is the number of a cell; cells are numbered as they are made; from m_sB on stand the arrays and texts that were there before. -/
/-- a cell: an array of ints or booleans (kind, length, contents), of longs, of rows; an object (class, fields) -/
abbrev mC : Type := (Nat × Nat × (Nat → Int32)) ⊕ (Nat × (Nat → Int64)) ⊕ (Nat × (Nat → Nat)) ⊕ (Nat × List Value)
abbrev mI (n : Nat) (f : Nat → Int32) : mC := .inl (0, n, f)
abbrev mZ (n : Nat) (f : Nat → Int32) : mC := .inl (1, n, f)
abbrev mJ (n : Nat) (f : Nat → Int64) : mC := .inr (.inl (n, f))
abbrev mG (n : Nat) (f : Nat → Nat) : mC := .inr (.inr (.inl (n, f)))
abbrev mO (ci : Nat) (fs : List Value) : mC := .inr (.inr (.inr (ci, fs)))
/-- no cell -/
abbrev mNo : mC := mO 99 []
/-- the heap: the cells, how many there are, how many slots they have -/
abbrev mH : Type := (Nat → mC) × Nat × Nat
abbrev mL : Type := List (Option Value)
/-- how a method ends: it returned (with a value or none), or it threw the object with that number -/
abbrev mE : Type := Option Value ⊕ Nat
def m_set (h : mH) (k : Nat) (c : mC) : mH := (fun j => if j = k then c else h.1 j, h.2.1, h.2.2)
def m_push (h : mH) (c : mC) (n : Nat) : mH := (fun j => if j = h.2.1 then c else h.1 j, h.2.1 + 1, h.2.2 + n)
/-- an array of n rows of k ints -/
def m_pushG (h : mH) (n k : Nat) : mH := (fun j => if j = h.2.1 then mG n (fun i => h.2.1 + 1 + i) else if h.2.1 < j ∧ j < h.2.1 + 1 + n then mI k (fun _ => 0) else h.1 j, h.2.1 + 1 + n, h.2.2 + (n + n * k))
def m_in (j : Int32) (n : Nat) : Prop := ¬ (j < 0 ∨ n ≤ j.toNatClampNeg)
/-- a value that a field of a type takes as it is -/
def m_fit (ty : FieldType) (v : Value) : Bool := match ty, v with
  | .int, .int _ => true
  | .boolean, .int x => decide (x = 0) || decide (x = 1)
  | .object _, .ref _ => true
  | .array _, .ref _ => true
  | _, _ => false
def m_ld (L : mL) (k : Nat) : Option Value := (L.getD k none)
/-- a value of one word that may stand in a local -/
def m_one (v : Value) : Bool := match v with
  | .int _ => true
  | .ref _ => true
  | _ => false
def m_isI (v : Value) : Bool := match v with
  | .int _ => true
  | _ => false
def m_isR (v : Value) : Bool := match v with
  | .ref _ => true
  | _ => false
def m_words (S : List Value) : Nat := (S.map fun v => v.category).sum
/-- does the condition hold -/
def m_cnd (c : ClassFile.Cond) (x z : Int32) : Prop := match c with
  | .eq => x = z
  | .ne => ¬ x = z
  | .lt => x < z
  | .ge => z ≤ x
  | .gt => z < x
  | .le => x ≤ z
/-- a branch: its condition, its two numbers, what is left on the stack -/
def m_br (i : Instr) (S : List Value) : Option (ClassFile.Cond × Int32 × Int32 × List Value) := match i with
  | .ifCond c _ => (match S with
    | .int x :: S => some (c, x, 0, S)
    | _ => none)
  | .if_icmp c _ => (match S with
    | .int z :: .int x :: S => some (c, x, z, S)
    | _ => none)
  | _ => none
/-- arrays: a load -/
def m_al (i : Instr) (S : List Value) (h : mH) : Option (Int32 × Nat × (Nat → Value) × List Value) := match S with
  | .int j :: .ref a :: S => (match i, h.1 a with
    | .iaload, .inl (0, n, f) => some (j, n, fun k => .int (f k), S)
    | .baload, .inl (1, n, f) => some (j, n, fun k => .int (f k), S)
    | .laload, .inr (.inl (n, f)) => some (j, n, fun k => .long (f k), S)
    | .aaload, .inr (.inr (.inl (n, f))) => some (j, n, fun k => .ref (f k), S)
    | _, _ => none)
  | _ => none
/-- arrays: a store: the index, the length, is the value fit, the cell and what it holds behind it -/
def m_as (i : Instr) (S : List Value) (h : mH) : Option (Int32 × Nat × Bool × Nat × (Nat → mC) × List Value) := match i with
  | .iastore => (match S with
    | .int x :: .int j :: .ref a :: S => (match h.1 a with
      | .inl (0, n, f) => some (j, n, decide (a < m_sB), a, fun k => mI n (upd f k x), S)
      | _ => none)
    | _ => none)
  | .bastore => (match S with
    | .int x :: .int j :: .ref a :: S => (match h.1 a with
      | .inl (1, n, f) => some (j, n, (decide (x = 0) || decide (x = 1)) && decide (a < m_sB), a, fun k => mZ n (upd f k x), S)
      | _ => none)
    | _ => none)
  | .lastore => (match S with
    | .long x :: .int j :: .ref a :: S => (match h.1 a with
      | .inr (.inl (n, f)) => some (j, n, decide (a < m_sB), a, fun k => mJ n (vp_updL f k x), S)
      | _ => none)
    | _ => none)
  | _ => none
/-- an instruction that is none of those above and below: one step -/
def m_step (y pc : Nat) (i : Instr) (len tgt : Nat) (L : mL) (S : List Value) (h : mH) : Option (Nat × mL × List Value × mH) := match i with
  | .iconst v => some (pc + len, L, .int (Int32.ofInt v) :: S, h)
  | .bipush v => some (pc + len, L, .int (Int8.ofInt v).toInt32 :: S, h)
  | .sipush v => some (pc + len, L, .int (Int16.ofInt v).toInt32 :: S, h)
  | .lconst v => some (pc + len, L, .long (Int64.ofNat (v : Nat)) :: S, h)
  | .ldc ix => (match m_lc (m_o y) ix with
    | some (.int v) => some (pc + len, L, .int v :: S, h)
    | _ => none)
  | .iload_n k => (match m_ld L k with
    | some (.int x) => some (pc + len, L, .int x :: S, h)
    | _ => none)
  | .iload k => (match m_ld L k with
    | some (.int x) => some (pc + len, L, .int x :: S, h)
    | _ => none)
  | .aload_n k => (match m_ld L k with
    | some (.ref x) => some (pc + len, L, .ref x :: S, h)
    | _ => none)
  | .aload k => (match m_ld L k with
    | some (.ref x) => some (pc + len, L, .ref x :: S, h)
    | _ => none)
  | .istore_n k => (match S with
    | .int x :: S => some (pc + len, L.set k (some (.int x)), S, h)
    | _ => none)
  | .istore k => (match S with
    | .int x :: S => some (pc + len, L.set k (some (.int x)), S, h)
    | _ => none)
  | .astore_n k => (match S with
    | .ref x :: S => some (pc + len, L.set k (some (.ref x)), S, h)
    | _ => none)
  | .astore k => (match S with
    | .ref x :: S => some (pc + len, L.set k (some (.ref x)), S, h)
    | _ => none)
  | .iinc k v => (match m_ld L k with
    | some (.int x) => some (pc + len, L.set k (some (.int (x + Int32.ofInt v))), S, h)
    | _ => none)
  | .iadd => (match S with
    | .int z :: .int x :: S => some (pc + len, L, .int (x + z) :: S, h)
    | _ => none)
  | .isub => (match S with
    | .int z :: .int x :: S => some (pc + len, L, .int (x - z) :: S, h)
    | _ => none)
  | .imul => (match S with
    | .int z :: .int x :: S => some (pc + len, L, .int (x * z) :: S, h)
    | _ => none)
  | .iand => (match S with
    | .int z :: .int x :: S => some (pc + len, L, .int (x &&& z) :: S, h)
    | _ => none)
  | .ior => (match S with
    | .int z :: .int x :: S => some (pc + len, L, .int (x ||| z) :: S, h)
    | _ => none)
  | .ixor => (match S with
    | .int z :: .int x :: S => some (pc + len, L, .int (x ^^^ z) :: S, h)
    | _ => none)
  | .ishl => (match S with
    | .int z :: .int x :: S => some (pc + len, L, .int (x <<< (z &&& 31)) :: S, h)
    | _ => none)
  | .i2l => (match S with
    | .int x :: S => some (pc + len, L, .long x.toInt64 :: S, h)
    | _ => none)
  | .lcmp => (match S with
    | .long z :: .long x :: S => some (pc + len, L, .int (lg_cmp x z) :: S, h)
    | _ => none)
  | .dup => (match S with
    | .ref x :: S => some (pc + len, L, .ref x :: .ref x :: S, h)
    | .int x :: S => some (pc + len, L, .int x :: .int x :: S, h)
    | _ => none)
  | .dup2 => (match S with
    | .int x :: .ref z :: S => some (pc + len, L, .int x :: .ref z :: .int x :: .ref z :: S, h)
    | _ => none)
  | .pop => (match S with
    | .ref _ :: S => some (pc + len, L, S, h)
    | .int _ :: S => some (pc + len, L, S, h)
    | _ => none)
  | .goto _ => some (tgt, L, S, h)
  | .getstatic ix => (match m_gs (m_o y) ix with
    | some j => some (pc + len, L, .ref (m_sB + j) :: S, h)
    | none => none)
  | .getfield ix => (match S with
    | .ref a :: S => (match m_fl (m_o y) ix, h.1 a with
      | some (ci, k), .inr (.inr (.inr (cj, fs))) => (match ci == cj, fs[k]? with
        | true, some v => some (pc + len, L, v :: S, h)
        | _, _ => none)
      | _, _ => none)
    | _ => none)
  | .putfield ix => (match S with
    | v :: .ref a :: S => (match m_fl (m_o y) ix, h.1 a with
      | some (ci, k), .inr (.inr (.inr (cj, fs))) => (match ci == cj && (m_fit (m_ty ci k) v && (decide (k < fs.length) && (!m_fin ci k || (m_ini y && ci == m_o y)))) with
        | true => some (pc + len, L, S, m_set h a (mO cj (fs.set k v)))
        | _ => none)
      | _, _ => none)
    | _ => none)
  | .arraylength => (match S with
    | .ref a :: S => (match h.1 a with
      | .inl (_, n, _) => some (pc + len, L, .int (Int32.ofNat n) :: S, h)
      | .inr (.inl (n, _)) => some (pc + len, L, .int (Int32.ofNat n) :: S, h)
      | .inr (.inr (.inl (n, _))) => some (pc + len, L, .int (Int32.ofNat n) :: S, h)
      | _ => none)
    | _ => none)
  | .new ix => (match m_ne (m_o y) ix with
    | some ci => (match Nat.blt ci 7 with
      | true => some (pc + len, L, .ref h.2.1 :: S, m_push h (mO ci (m_df ci)) (m_sz ci))
      | false => none)
    | none => none)
  | .invokespecial ix => (match m_pr (m_o y) ix, S with
    | some 1, .ref _ :: S => (match decide (1 ≤ m_nf y) && decide (m_words S + 12 ≤ m_nw y) with
      | true => some (pc + len, L, S, h)
      | _ => none)
    | _, _ => none)
  | .invokestatic ix => (match m_pr (m_o y) ix, S with
    | some 3, .int z :: .int x :: S => (match decide (1 ≤ m_nf y) && decide (m_words S + 13 ≤ m_nw y) with
      | true => some (pc + len, L, .int (if x < z then z else x) :: S, h)
      | _ => none)
    | some 4, .int z :: .int x :: S => (match decide (1 ≤ m_nf y) && decide (m_words S + 13 ≤ m_nw y) with
      | true => some (pc + len, L, .int (if z < x then z else x) :: S, h)
      | _ => none)
    | _, _ => none)
  | _ => none
/-- the call of a method that the machine walks: its number, does the call look for it in the receiver -/
def m_inv (y : Nat) (i : Instr) : Option Nat := match i with
  | .invokevirtual ix => m_cl (m_o y) ix
  | .invokespecial ix => m_cl (m_o y) ix
  | .invokestatic ix => m_cl (m_o y) ix
  | _ => none
/-- the receiver's cell is an object of the method's own class -/
def m_rcv (y : Nat) (As : List Value) (h : mH) : Bool := m_st y || (match As with
  | .ref a :: _ => (match h.1 a with
    | .inr (.inr (.inr (ci, _))) => ci == m_o y
    | _ => false)
  | _ => false)
def m_entry (y : Nat) (As : List Value) : mL := As.map some ++ List.replicate (m_ml y - As.length) none
def m_at (y pc : Nat) : Option (Instr × Nat × Nat) := match (m_code y).find? (fun c => Nat.blt pc c.1) with
  | some c => c.2.lookup pc
  | none => none
/-- the handler of an exception -/
def m_catch (y pc : Nat) (h : mH) (x : Nat) : Option Nat := match h.1 x with
  | .inr (.inr (.inr (ci, _))) => ((m_hd y).find? (fun r => (Nat.ble r.1 pc && Nat.blt pc r.2.1) && Nat.beq r.2.2.2 ci)).map (fun r => r.2.2.1)
  | _ => none
/-- the call may be made: enough on the stack, all of one word, a good receiver, the room -/
def m_may (y y' : Nat) (S : List Value) (h : mH) : Bool := decide (m_na y' ≤ S.length) && (((S.take (m_na y')).all m_one) && (m_rcv y' (S.take (m_na y')).reverse h && (decide (m_nf y' + 1 ≤ m_nf y) && decide (m_words (S.drop (m_na y')) + (m_ml y' + 11) + m_nw y' ≤ m_nw y))))
/-- a method's return -/
def m_ret (y : Nat) (i : Instr) (S : List Value) : Option (Option Value) := match i with
  | .return_ => (match S, m_rt y with
    | [], none => some none
    | _, _ => none)
  | .ireturn => (match S, m_rt y with
    | [.int v], some ty => (match m_fit ty (.int v) with
      | true => some (some (.int v))
      | _ => none)
    | _, _ => none)
  | .areturn => (match S, m_rt y with
    | [.ref v], some (.array _) => some (some (.ref v))
    | _, _ => none)
  | _ => none
