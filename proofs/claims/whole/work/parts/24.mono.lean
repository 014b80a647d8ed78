/-! the machine's heap only grows -/
def m_le (h h' : mH) : Prop := h.2.1 ≤ h'.2.1 ∧ h.2.2 ≤ h'.2.2
theorem m_le_rf (h : mH) : m_le h h := ⟨Nat.le_refl _, Nat.le_refl _⟩
theorem m_le_tr {a b c : mH} (h1 : m_le a b) (h2 : m_le b c) : m_le a c := ⟨Nat.le_trans h1.1 h2.1, Nat.le_trans h1.2 h2.2⟩
theorem m_le_set (h : mH) (k : Nat) (c : mC) : m_le h (m_set h k c) := ⟨Nat.le_refl _, Nat.le_refl _⟩
theorem m_le_push (h : mH) (c : mC) (n : Nat) : m_le h (m_push h c n) := ⟨Nat.le_succ _, Nat.le_add_right _ _⟩
theorem m_le_pushG (h : mH) (n k : Nat) : m_le h (m_pushG h n k) := ⟨by show h.2.1 ≤ h.2.1 + 1 + n; omega, by show h.2.2 ≤ h.2.2 + (n + n * k); omega⟩
set_option maxHeartbeats 4000000 in
theorem m_step_le {y pc len tgt pc' : Nat} {i : Instr} {L L' : mL} {S S' : List Value} {h h' : mH} (h2 : m_step y pc i len tgt L S h = some (pc', L', S', h')) : m_le h h' := by
  cases i
  all_goals first
    | (simp only [m_step, reduceCtorEq] at h2; done)
    | (simp only [m_step, Option.some.injEq, Prod.mk.injEq] at h2
       obtain ⟨-, -, -, rfl⟩ := h2
       exact m_le_rf _)
    | (simp only [m_step] at h2
       repeat' (first | (cases h2; done) | split at h2)
       all_goals (try simp only [Option.some.injEq, Prod.mk.injEq] at h2)
       all_goals (try (obtain ⟨-, -, -, rfl⟩ := h2))
       all_goals first | exact m_le_rf _ | exact m_le_set _ _ _ | exact m_le_push _ _ _)
set_option maxHeartbeats 4000000 in
theorem m_more_le {y pc len pc' : Nat} {i : Instr} {L L' : mL} {S S' : List Value} {h h' : mH} (h2 : m_more y pc i len L S h = some (pc', L', S', h')) : m_le h h' := by
  have hif : ∀ {q : Prop} {r : Nat × mL × List Value × mH}, m_if q (some r) none = some (pc', L', S', h') → r = (pc', L', S', h') := by
    intro q r hq
    by_cases hp : q
    · rw [m_if_t hp] at hq; exact Option.some.inj hq
    · rw [m_if_f hp] at hq; cases hq
  unfold m_more at h2
  split at h2
  · split at h2
    · split at h2
      · have := hif h2; simp only [Prod.mk.injEq] at this; obtain ⟨-, -, -, rfl⟩ := this; exact m_le_push _ _ _
      · cases h2
    · cases h2
  · split at h2
    · have := hif h2; simp only [Prod.mk.injEq] at this; obtain ⟨-, -, -, rfl⟩ := this; exact m_le_pushG _ _ _
    · cases h2
  · split at h2
    · have := hif h2; simp only [Prod.mk.injEq] at this; obtain ⟨-, -, -, rfl⟩ := this; exact m_le_rf _
    · cases h2
  · split at h2
    · have := hif h2; simp only [Prod.mk.injEq] at this; obtain ⟨-, -, -, rfl⟩ := this; exact m_le_rf _
    · cases h2
  · split at h2
    · split at h2
      · simp only [Option.some.injEq, Prod.mk.injEq] at h2; obtain ⟨-, -, -, rfl⟩ := h2; exact m_le_rf _
      · cases h2
    · cases h2
  · split at h2
    · split at h2
      · have := hif h2; simp only [Prod.mk.injEq] at this; obtain ⟨-, -, -, rfl⟩ := this; exact m_le_set _ _ _
      · cases h2
    · cases h2
  · cases h2
theorem m_go_le {y pc len tgt pc' : Nat} {i : Instr} {L L' : mL} {S S' : List Value} {h h' : mH} (h2 : m_go y pc i len tgt L S h = some (pc', L', S', h')) : m_le h h' := by
  have hif : ∀ {q : Prop} {r : Nat × mL × List Value × mH}, m_if q (some r) none = some (pc', L', S', h') → r = (pc', L', S', h') := by
    intro q r hq
    by_cases hp : q
    · rw [m_if_t hp] at hq; exact Option.some.inj hq
    · rw [m_if_f hp] at hq; cases hq
  unfold m_go at h2
  split at h2
  · rename_i r hr
    cases h2
    exact m_step_le hr
  · split at h2
    · simp only [Option.some.injEq, Prod.mk.injEq] at h2; obtain ⟨-, -, -, rfl⟩ := h2; exact m_le_rf _
    · split at h2
      · have := hif h2; simp only [Prod.mk.injEq] at this; obtain ⟨-, -, -, rfl⟩ := this; exact m_le_rf _
      · split at h2
        · have := hif h2; simp only [Prod.mk.injEq] at this; obtain ⟨-, -, -, rfl⟩ := this; exact m_le_set _ _ _
        · cases h2
        · exact m_more_le h2
theorem m_thr_le {y pc x : Nat} {i : Instr} {S : List Value} {h h' : mH} (h2 : m_thr y pc i S h = some (x, h')) : h' = m_push h (h'.1 x) 6 ∧ x = h.2.1 ∧ ∃ ci, (ci = 7 ∨ ci = 8) ∧ h'.1 x = mO ci [] := by
  unfold m_thr at h2
  split at h2
  · split at h2
    · rename_i ci e1
      split at h2
      · rename_i e2
        simp only [Option.some.injEq, Prod.mk.injEq] at h2
        obtain ⟨rfl, rfl⟩ := h2
        simp only [Bool.and_eq_true, Nat.ble_eq, Nat.blt_eq] at e2
        have e3 : (m_push h (mO ci []) 6).1 h.2.1 = mO ci [] := if_pos rfl
        refine ⟨by rw [e3], rfl, ci, by omega, e3⟩
      · cases h2
    · cases h2
  · cases h2
/-- the heap grows; what is thrown is an exception's object -/
theorem m_exec_le : ∀ (n y pc : Nat) (L : mL) (S : List Value) (h : mH) (o : mE) (h' : mH), m_exec n y pc L S h = some (o, h') → m_le h h' ∧ ∀ x, o = .inr x → ∃ ci, (ci = 7 ∨ ci = 8) ∧ h'.1 x = mO ci [] := by
  intro n
  induction n with
  | zero => intro y pc L S h o h' q; simp [m_exec] at q
  | succ n ih =>
    intro y pc L S h o h' q
    rw [m_exec] at q
    cases e1 : m_at y pc with
    | none => rw [e1] at q; simp at q
    | some a =>
      obtain ⟨i, len, tgt⟩ := a
      rw [e1] at q
      dsimp only at q
      cases e2 : m_go y pc i len tgt L S h with
      | some b =>
        obtain ⟨pc', L', S', h1⟩ := b
        rw [e2] at q
        obtain ⟨q1, q2⟩ := ih _ _ _ _ _ _ _ q
        exact ⟨m_le_tr (m_go_le e2) q1, q2⟩
      | none =>
        rw [e2] at q
        dsimp only at q
        cases e3 : m_inv y i with
        | none =>
          rw [e3] at q
          dsimp only at q
          cases e4 : m_ret y i S with
          | some v =>
            rw [e4] at q
            simp only [Option.some.injEq, Prod.mk.injEq] at q
            obtain ⟨rfl, rfl⟩ := q
            exact ⟨m_le_rf _, fun x hx => by cases hx⟩
          | none =>
            rw [e4] at q
            dsimp only at q
            cases e5 : m_thr y pc i S h with
            | none => rw [e5] at q; cases q
            | some w =>
              obtain ⟨x, h1⟩ := w
              rw [e5] at q
              simp only [Option.some.injEq, Prod.mk.injEq] at q
              obtain ⟨rfl, rfl⟩ := q
              obtain ⟨t1, t2, t3⟩ := m_thr_le e5
              exact ⟨by rw [t1]; exact m_le_push _ _ _, fun z hz => by cases hz; exact t3⟩
        | some y' =>
          rw [e3] at q
          dsimp only at q
          cases e4 : m_may y y' S h with
          | false => rw [e4] at q; simp at q
          | true =>
            rw [e4] at q
            dsimp only at q
            cases e5 : m_exec n y' 0 (m_entry y' (S.take (m_na y')).reverse) [] h with
            | none => rw [e5] at q; simp at q
            | some w =>
              obtain ⟨o1, h1⟩ := w
              rw [e5] at q
              obtain ⟨r1, r2⟩ := ih _ _ _ _ _ _ _ e5
              cases o1 with
              | inl v =>
                obtain ⟨q1, q2⟩ := ih _ _ _ _ _ _ _ q
                exact ⟨m_le_tr r1 q1, q2⟩
              | inr x =>
                dsimp only at q
                cases e6 : m_catch y pc h1 x with
                | none =>
                  rw [e6] at q
                  simp only [Option.some.injEq, Prod.mk.injEq] at q
                  obtain ⟨rfl, rfl⟩ := q
                  exact ⟨r1, fun z hz => by cases hz; exact r2 x rfl⟩
                | some t =>
                  rw [e6] at q
                  obtain ⟨q1, q2⟩ := ih _ _ _ _ _ _ _ q
                  exact ⟨m_le_tr r1 q1, q2⟩
