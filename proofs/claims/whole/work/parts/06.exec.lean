noncomputable def m_if {α : Type} (p : Prop) (a b : α) : α := @ite α p (Classical.propDecidable p) a b
theorem m_if_t {α : Type} {p : Prop} {a b : α} (h : p) : m_if p a b = a := if_pos h
theorem m_if_f {α : Type} {p : Prop} {a b : α} (h : ¬ p) : m_if p a b = b := if_neg h
/-- where a switch leads -/
def m_sw (pc : Nat) (d lo hi : Int) (offs : Array Int) (x : Int32) : Option Int :=
  if x.toInt < lo ∨ hi < x.toInt then some ((pc : Int) + d) else (offs[(x.toInt - lo).toNat]?).map (fun o => (pc : Int) + o)
/-- a new array -/
def m_arr (t : ArrayType) (n : Nat) : Option mC := match t with
  | .int => some (mI n (fun _ => 0))
  | .boolean => some (mZ n (fun _ => 0))
  | .long => some (mJ n (fun _ => 0))
  | _ => none
/-- one step with a condition -/
noncomputable def m_more (y pc : Nat) (i : Instr) (len : Nat) (L : mL) (S : List Value) (h : mH) : Option (Nat × mL × List Value × mH) := match i with
  | .newarray t => (match S with
    | .int n :: S => (match m_arr t n.toNatClampNeg with
      | some c => m_if (¬ n < 0 ∧ n.toNatClampNeg ≤ 1000000) (some (pc + len, L, .ref h.2.1 :: S, m_push h c n.toNatClampNeg)) none
      | none => none)
    | _ => none)
  | .multianewarray ix 2 => (match S, m_ma (m_o y) ix with
    | .int k :: .int n :: S, true => m_if ((¬ k < 0 ∧ k.toNatClampNeg ≤ 1000000) ∧ (¬ n < 0 ∧ n.toNatClampNeg ≤ 1000000)) (some (pc + len, L, .ref h.2.1 :: S, m_pushG h n.toNatClampNeg k.toNatClampNeg)) none
    | _, _ => none)
  | .idiv => (match S with
    | .int z :: .int x :: S => m_if (¬ z = 0) (some (pc + len, L, .int (x / z) :: S, h)) none
    | _ => none)
  | .irem => (match S with
    | .int z :: .int x :: S => m_if (¬ z = 0) (some (pc + len, L, .int (x - x / z * z) :: S, h)) none
    | _ => none)
  | .tableswitch d lo hi offs => (match S with
    | .int x :: S => (match m_sw pc d lo hi offs x with
      | some (.ofNat t) => some (t, L, S, h)
      | _ => none)
    | _ => none)
  | .invokestatic ix => (match m_pr (m_o y) ix, S with
    | some 5, .int n :: .int dp :: .ref b :: .int sp :: .ref a :: S => (match h.1 a, h.1 b with
      | .inl (0, n0, f), .inl (0, n1, g) => m_if (((¬ sp < 0 ∧ ¬ dp < 0) ∧ (¬ n < 0 ∧ a < m_sB)) ∧ ((sp.toNatClampNeg + n.toNatClampNeg ≤ n0 ∧ dp.toNatClampNeg + n.toNatClampNeg ≤ n1) ∧ (b < m_sB ∧ (1 ≤ m_nf y ∧ m_words S + 18 ≤ m_nw y)))) (some (pc + len, L, S, m_set h b (mI n1 (va_cpy f g sp.toNatClampNeg dp.toNatClampNeg n.toNatClampNeg)))) none
      | _, _ => none)
    | _, _ => none)
  | _ => none
noncomputable def m_go (y pc : Nat) (i : Instr) (len tgt : Nat) (L : mL) (S : List Value) (h : mH) : Option (Nat × mL × List Value × mH) :=
  match m_step y pc i len tgt L S h with
  | some r => some r
  | none => (match m_br i S with
    | some (c, x, z, S') => some (m_if (m_cnd c x z) tgt (pc + len), L, S', h)
    | none => (match m_al i S h with
      | some (j, n, f, S') => m_if (m_in j n) (some (pc + len, L, f j.toNatClampNeg :: S', h)) none
      | none => (match m_as i S h with
        | some (j, n, true, a, c, S') => m_if (m_in j n) (some (pc + len, L, S', m_set h a (c j.toNatClampNeg))) none
        | some _ => none
        | none => m_more y pc i len L S h)))
/-- the entries of the exceptions' constructors: which class -/
def m_px (o ix : Nat) : Option Nat := match o, ix with
  | 5, 72 => some 7
  | 5, 83 => some 8
  | _, _ => none
/-- behind 'new' of an exception: it is made with a written text and thrown -/
def m_seq (y pc ci : Nat) : Bool := match m_at y (pc + 3), m_at y (pc + 4), m_at y (pc + 6), m_at y (pc + 9) with
  | some (.dup, _, _), some (.ldc k, _, _), some (.invokespecial j, _, _), some (.athrow, _, _) => (match m_lc (m_o y) k, m_px (m_o y) j with
    | some (.ref _), some cj => Nat.beq ci cj
    | _, _ => false)
  | _, _, _, _ => false
/-- an exception is made and thrown out of a method without handlers -/
def m_thr (y pc : Nat) (i : Instr) (S : List Value) (h : mH) : Option (Nat × mH) := match i with
  | .new ix => (match m_ne (m_o y) ix with
    | some ci => (match (Nat.ble 7 ci && Nat.blt ci 9) && (m_seq y pc ci && ((m_hd y).isEmpty && (Nat.ble 6 (m_nf y) && Nat.ble (m_words S + 82) (m_nw y)))) with
      | true => some (h.2.1, m_push h (mO ci []) 6)
      | false => none)
    | none => none)
  | _ => none
/-- a method from a place on, with so much fuel: how it ends, and the heap then -/
noncomputable def m_exec : Nat → Nat → Nat → mL → List Value → mH → Option (mE × mH)
  | 0, _, _, _, _, _ => none
  | n + 1, y, pc, L, S, h => (match m_at y pc with
    | none => none
    | some (i, len, tgt) => (match m_go y pc i len tgt L S h with
      | some (pc', L', S', h') => m_exec n y pc' L' S' h'
      | none => (match m_inv y i with
        | some y' => (match m_may y y' S h with
          | true => (match m_exec n y' 0 (m_entry y' (S.take (m_na y')).reverse) [] h with
            | some (.inl v, h') => m_exec n y (pc + 3) L (v.toList ++ S.drop (m_na y')) h'
            | some (.inr x, h') => (match m_catch y pc h' x with
              | some t => m_exec n y t L [.ref x] h'
              | none => some (.inr x, h'))
            | none => none)
          | false => none)
        | none => (match m_ret y i S with
          | some v => some (.inl v, h)
          | none => (match m_thr y pc i S h with
            | some (x, h') => some (.inr x, h')
            | none => none)))))
theorem m_mono : ∀ (n y pc : Nat) (L : mL) (S : List Value) (h : mH) (r : mE × mH), m_exec n y pc L S h = some r → m_exec (n + 1) y pc L S h = some r := by
  intro n
  induction n with
  | zero => intro y pc L S h r q; simp [m_exec] at q
  | succ n ih =>
    intro y pc L S h r q
    rw [m_exec] at q ⊢
    cases e1 : m_at y pc with
    | none => rw [e1] at q; simp at q
    | some a =>
      obtain ⟨i, len, tgt⟩ := a
      rw [e1] at q
      dsimp only at q ⊢
      cases e2 : m_go y pc i len tgt L S h with
      | some b =>
        obtain ⟨pc', L', S', h'⟩ := b
        rw [e2] at q
        exact ih _ _ _ _ _ _ q
      | none =>
        rw [e2] at q
        dsimp only at q ⊢
        cases e3 : m_inv y i with
        | none => rw [e3] at q; exact q
        | some y' =>
          rw [e3] at q
          dsimp only at q ⊢
          cases e4 : m_may y y' S h with
          | false => rw [e4] at q; simp at q
          | true =>
            rw [e4] at q
            dsimp only at q ⊢
            cases e5 : m_exec n y' 0 (m_entry y' (S.take (m_na y')).reverse) [] h with
            | none => rw [e5] at q; simp at q
            | some w =>
              rw [e5] at q
              rw [ih _ _ _ _ _ _ e5]
              obtain ⟨o, h'⟩ := w
              cases o with
              | inl v => exact ih _ _ _ _ _ _ q
              | inr x =>
                dsimp only at q ⊢
                cases e6 : m_catch y pc h' x with
                | none => rw [e6] at q; exact q
                | some t => rw [e6] at q; exact ih _ _ _ _ _ _ q
theorem m_mono_le {n k y pc : Nat} {L : mL} {S : List Value} {h : mH} {r : mE × mH} (q : m_exec n y pc L S h = some r) (hk : n ≤ k) : m_exec k y pc L S h = some r := by
  induction hk with
  | refl => exact q
  | step _ ih => exact m_mono _ _ _ _ _ _ _ ih
/-- THE JUDGEMENT: the method y, at pc with these locals, stack and heap, comes to an end with Q -/
def X (y pc : Nat) (L : mL) (S : List Value) (h : mH) (Q : mE → mH → Prop) : Prop := ∃ (n : Nat) (o : mE) (h' : mH), m_exec n y pc L S h = some (o, h') ∧ Q o h'
/-- a method's call with these arguments -/
def Y (y : Nat) (As : List Value) (h : mH) (Q : mE → mH → Prop) : Prop := X y 0 (m_entry y As) [] h Q
section XR
variable {y pc len tgt pc' : Nat} {i : Instr} {L L' : mL} {S S' : List Value} {h h' : mH} {Q : mE → mH → Prop}
theorem X_go (h1 : m_at y pc = some (i, len, tgt)) (h2 : m_go y pc i len tgt L S h = some (pc', L', S', h')) (k : X y pc' L' S' h' Q) : X y pc L S h Q := by
  obtain ⟨n, o, hh, q, r⟩ := k
  refine ⟨n + 1, o, hh, ?_, r⟩
  rw [m_exec, h1]
  dsimp only
  rw [h2]
  exact q
/-- a plain step: 'refine X_s rfl rfl ?_' -/
theorem X_s (h1 : m_at y pc = some (i, len, tgt)) (h2 : m_step y pc i len tgt L S h = some (pc', L', S', h')) (k : X y pc' L' S' h' Q) : X y pc L S h Q :=
  X_go h1 (by rw [m_go, h2]) k
theorem X_b {c : ClassFile.Cond} {x z : Int32} (h1 : m_at y pc = some (i, len, tgt)) (h0 : m_step y pc i len tgt L S h = none) (h2 : m_br i S = some (c, x, z, S')) (kt : m_cnd c x z → X y tgt L S' h Q) (kf : ¬ m_cnd c x z → X y (pc + len) L S' h Q) : X y pc L S h Q := by
  by_cases q : m_cnd c x z
  · exact X_go h1 (by rw [m_go, h0]; dsimp only; rw [h2]; dsimp only; rw [m_if_t q]) (kt q)
  · exact X_go h1 (by rw [m_go, h0]; dsimp only; rw [h2]; dsimp only; rw [m_if_f q]) (kf q)
theorem X_l {j : Int32} {n : Nat} {f : Nat → Value} (h1 : m_at y pc = some (i, len, tgt)) (h0 : m_step y pc i len tgt L S h = none) (h3 : m_br i S = none) (h2 : m_al i S h = some (j, n, f, S')) (hin : m_in j n) (k : X y (pc + len) L (f j.toNatClampNeg :: S') h Q) : X y pc L S h Q :=
  X_go h1 (by rw [m_go, h0]; dsimp only; rw [h3]; dsimp only; rw [h2]; dsimp only; rw [m_if_t hin]) k
theorem X_t {j : Int32} {n a : Nat} {c : Nat → mC} (h1 : m_at y pc = some (i, len, tgt)) (h0 : m_step y pc i len tgt L S h = none) (h3 : m_br i S = none) (h4 : m_al i S h = none) (h2 : m_as i S h = some (j, n, true, a, c, S')) (hin : m_in j n) (k : X y (pc + len) L S' (m_set h a (c j.toNatClampNeg)) Q) : X y pc L S h Q :=
  X_go h1 (by rw [m_go, h0]; dsimp only; rw [h3]; dsimp only; rw [h4]; dsimp only; rw [h2]; dsimp only; rw [m_if_t hin]) k
theorem X_m (h1 : m_at y pc = some (i, len, tgt)) (h0 : m_step y pc i len tgt L S h = none) (h3 : m_br i S = none) (h4 : m_al i S h = none) (h5 : m_as i S h = none) (h2 : m_more y pc i len L S h = some (pc', L', S', h')) (k : X y pc' L' S' h' Q) : X y pc L S h Q :=
  X_go h1 (by rw [m_go, h0]; dsimp only; rw [h3]; dsimp only; rw [h4]; dsimp only; rw [h5]; dsimp only; exact h2) k
/-- a method returns -/
theorem X_r {v : Option Value} (h1 : m_at y pc = some (i, len, tgt)) (h2 : m_go y pc i len tgt L S h = none) (h3 : m_inv y i = none) (h4 : m_ret y i S = some v) (k : Q (.inl v) h) : X y pc L S h Q :=
  ⟨1, .inl v, h, by rw [m_exec, h1]; dsimp only; rw [h2]; dsimp only; rw [h3]; dsimp only; rw [h4], k⟩
/-- a method throws -/
theorem X_x {x : Nat} (h1 : m_at y pc = some (i, len, tgt)) (h2 : m_go y pc i len tgt L S h = none) (h3 : m_inv y i = none) (h4 : m_ret y i S = none) (h5 : m_thr y pc i S h = some (x, h')) (k : Q (.inr x) h') : X y pc L S h Q :=
  ⟨1, .inr x, h', by rw [m_exec, h1]; dsimp only; rw [h2]; dsimp only; rw [h3]; dsimp only; rw [h4]; dsimp only; rw [h5], k⟩
/-- a call -/
theorem X_c {y' : Nat} {Q' : mE → mH → Prop} (h1 : m_at y pc = some (i, len, tgt)) (h2 : m_go y pc i len tgt L S h = none) (h3 : m_inv y i = some y') (h4 : m_may y y' S h = true) (hY : Y y' (S.take (m_na y')).reverse h Q')
    (kr : ∀ v h', Q' (.inl v) h' → X y (pc + 3) L (v.toList ++ S.drop (m_na y')) h' Q) (kx : ∀ x h', Q' (.inr x) h' → (match m_catch y pc h' x with | some t => X y t L [.ref x] h' Q | none => Q (.inr x) h')) : X y pc L S h Q := by
  obtain ⟨n1, o, h', q1, r1⟩ := hY
  cases o with
  | inl v =>
    obtain ⟨n2, o2, h2', q2, r2⟩ := kr v h' r1
    refine ⟨max n1 n2 + 1, o2, h2', ?_, r2⟩
    rw [m_exec, h1]; dsimp only; rw [h2]; dsimp only; rw [h3]; dsimp only; rw [h4]; dsimp only
    rw [m_mono_le q1 (Nat.le_max_left n1 n2)]
    exact m_mono_le q2 (Nat.le_max_right n1 n2)
  | inr x =>
    have k := kx x h' r1
    cases e : m_catch y pc h' x with
    | none =>
      rw [e] at k
      refine ⟨n1 + 1, .inr x, h', ?_, k⟩
      rw [m_exec, h1]; dsimp only; rw [h2]; dsimp only; rw [h3]; dsimp only; rw [h4]; dsimp only; rw [q1]; dsimp only; rw [e]
    | some t =>
      rw [e] at k
      obtain ⟨n2, o2, h2', q2, r2⟩ := k
      refine ⟨max n1 n2 + 1, o2, h2', ?_, r2⟩
      rw [m_exec, h1]; dsimp only; rw [h2]; dsimp only; rw [h3]; dsimp only; rw [h4]; dsimp only
      rw [m_mono_le q1 (Nat.le_max_left n1 n2)]; dsimp only; rw [e]
      exact m_mono_le q2 (Nat.le_max_right n1 n2)
end XR
