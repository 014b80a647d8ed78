/-! rules for the machine's walks -/
/-- a call comes to just this end -/
abbrev Yd (y : Nat) (As : List Value) (h : mH) (o : mE) (H : mH) : Prop := Y y As h (fun o2 h2 => o2 = o ∧ h2 = H)
section XR2
variable {y pc len tgt pc' : Nat} {i : Instr} {L L' : mL} {S S' : List Value} {h h' : mH} {Q : mE → mH → Prop}
theorem X_cd {y' : Nat} {v : Option Value} {H : mH} (h1 : m_at y pc = some (i, len, tgt)) (h2 : m_go y pc i len tgt L S h = none) (h3 : m_inv y i = some y') (h4 : m_may y y' S h = true) (hY : Yd y' (S.take (m_na y')).reverse h (.inl v) H)
    (k : X y (pc + 3) L (v.toList ++ S.drop (m_na y')) H Q) : X y pc L S h Q :=
  X_c h1 h2 h3 h4 hY (fun v2 h2 hq => by obtain ⟨e1, rfl⟩ := hq; cases e1; exact k) (fun x h2 hq => by cases hq.1)
theorem X_cx {y' x : Nat} {H : mH} (h1 : m_at y pc = some (i, len, tgt)) (h2 : m_go y pc i len tgt L S h = none) (h3 : m_inv y i = some y') (h4 : m_may y y' S h = true) (hY : Yd y' (S.take (m_na y')).reverse h (.inr x) H)
    (k : (match m_catch y pc H x with | some t => X y t L [.ref x] H Q | none => Q (.inr x) H)) : X y pc L S h Q :=
  X_c h1 h2 h3 h4 hY (fun v2 h2 hq => by cases hq.1) (fun x2 h2 hq => by obtain ⟨e1, rfl⟩ := hq; cases e1; exact k)
/-- a load at a place that is a number -/
theorem X_ln {j : Int32} {k n : Nat} {f : Nat → Value} (h1 : m_at y pc = some (i, len, tgt)) (h0 : m_step y pc i len tgt L S h = none) (h3 : m_br i S = none) (h2 : m_al i S h = some (j, n, f, S')) (hj : j = nI k) (hk : k < n) (hn : n < 2 ^ 31) (kk : X y (pc + len) L (f k :: S') h Q) : X y pc L S h Q := by
  subst hj
  refine X_l h1 h0 h3 h2 (nI_in hk hn) ?_
  rw [nI_clamp (by omega)]
  exact kk
theorem X_tn {j : Int32} {k n a : Nat} {c : Nat → mC} (h1 : m_at y pc = some (i, len, tgt)) (h0 : m_step y pc i len tgt L S h = none) (h3 : m_br i S = none) (h4 : m_al i S h = none) (h2 : m_as i S h = some (j, n, true, a, c, S')) (hj : j = nI k) (hk : k < n) (hn : n < 2 ^ 31) (kk : X y (pc + len) L S' (m_set h a (c k)) Q) : X y pc L S h Q := by
  subst hj
  refine X_t h1 h0 h3 h4 h2 (nI_in hk hn) ?_
  rw [nI_clamp (by omega)]
  exact kk
/-- a branch that is decided -/
theorem X_bt {c : ClassFile.Cond} {x z : Int32} (h1 : m_at y pc = some (i, len, tgt)) (h0 : m_step y pc i len tgt L S h = none) (h2 : m_br i S = some (c, x, z, S')) (hc : m_cnd c x z) (k : X y tgt L S' h Q) : X y pc L S h Q := X_b h1 h0 h2 (fun _ => k) (fun q => absurd hc q)
theorem X_bf {c : ClassFile.Cond} {x z : Int32} (h1 : m_at y pc = some (i, len, tgt)) (h0 : m_step y pc i len tgt L S h = none) (h2 : m_br i S = some (c, x, z, S')) (hc : ¬ m_cnd c x z) (k : X y (pc + len) L S' h Q) : X y pc L S h Q := X_b h1 h0 h2 (fun q => absurd q hc) (fun _ => k)
theorem X_pc {pc2 : Nat} (e : pc = pc2) (k : X y pc2 L S h Q) : X y pc L S h Q := e ▸ k
theorem X_h {H : mH} (e : h = H) (k : X y pc L S H Q) : X y pc L S h Q := e ▸ k
theorem Yd_of {As : List Value} {o : mE} {H : mH} (k : ∀ Q : mE → mH → Prop, Q o H → Y y As h Q) : Yd y As h o H := k _ ⟨rfl, rfl⟩
/-- a spec in the other form -/
theorem Yd.to {As : List Value} {o : mE} {H : mH} (hy : Yd y As h o H) {Q : mE → mH → Prop} (k : Q o H) : Y y As h Q := by
  obtain ⟨n, o2, h2, q, e1, e2⟩ := hy
  subst e1; subst e2
  exact ⟨n, _, _, q, k⟩
end XR2
/-- a storey's numbers -/
def okF (F : Fx) : Prop := (2 ≤ F.1 ∧ F.1 ≤ 24) ∧ (2 ≤ F.2.1 ∧ F.2.1 ≤ 24) ∧ F.2.2.1 ≤ 2562
theorem okF.n {F : Fx} (h : okF F) : F.1 * F.2.1 ≤ 576 := by
  obtain ⟨⟨-, h1⟩, ⟨-, h2⟩, -⟩ := h
  exact Nat.mul_le_mul h1 h2
def bI (b : Bool) : Int32 := if b then 1 else 0
theorem bI_t : bI true = 1 := rfl
theorem bI_f : bI false = 0 := rfl
theorem bI_t0 : ¬ bI true = 0 := by decide
theorem bI_f0 : bI false = 0 := by decide
theorem bI_fit (b : Bool) : m_fit .boolean (.int (bI b)) = true := by cases b <;> decide
theorem st_r {C : Ct} {k i k' j : Nat} {v : Int32} : st C k i v k' j = if k' = k then (if j = i then v else C k j) else C k' j := by
  unfold st
  split
  · rfl
  · rfl
theorem nI_1' (a : Nat) : nI a + Int32.ofInt 1 = nI (a + 1) := nI_1 a
