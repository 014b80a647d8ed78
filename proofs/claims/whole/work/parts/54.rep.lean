/-! the class's contents and the run's state -/
def cntW (A : Ct) : Nat → Nat
  | 0 => 0
  | i + 1 => cntW A i + (if A 0 i = 0 then 1 else 0)
def repP (F : Fx) (C0 A C : Ct) (p : Nat) : Prop := C 30 p = A 0 p ∧ C 31 p = A 1 p ∧ C 32 p = A 2 p ∧ C 33 p = A 3 p ∧ C 35 p = A 4 p ∧ C 37 p = A 9 p ∧ C 36 p + 1 = nI (gRow F C0 p) ∧ ∀ k, k < (A 3 p).toNatClampNeg → C (39 + p) k = A 7 (600 * p + k) ∧ C (100 + p) k = A 8 (600 * p + k)
def repC (F : Fx) (C0 : Ct) (P t : Nat) (N : Nat → Int32) (A C : Ct) : Prop :=
  (∀ k, k < 29 ∨ 163 < k → C k = C0 k) ∧ (∀ p, p < P → repP F C0 A C p) ∧ (∀ c, c < F.1 * F.2.1 → C 160 c = A 5 c ∧ C 34 c = A 6 c) ∧ C 29 18 = nI (cntW A P) ∧
  ∀ c, c < F.1 * F.2.1 → N c = ciC C c (nI t) ∧ ∃ s, s ≤ t ∧ C 162 c = nI s
/-- the rows that are gone by are found -/
def rwC (F : Fx) (C0 : Ct) (P : Nat) : Prop := ∀ p, p < P → ∀ c, c < F.1 * F.2.1 → C0 (12 + gRow F C0 p) c = nuC F C0 (gRow F C0 p) c ∧ C0 (12 + hRow C0 p) c = nuC F C0 (hRow C0 p) c
section
variable {F : Fx} {C0 A C : Ct} {P t p b k c : Nat} {N : Nat → Int32}
theorem cntW_le {A' : Ct} (h : ∀ q, q < P → A' 0 q = A 0 q) : cntW A' P = cntW A P := by
  induction P with
  | zero => rfl
  | succ P ih => rw [cntW, cntW, ih (fun q hq => h q (by omega)), h P (by omega)]
theorem cntW_end {v : Int32} (hv : ¬ v = 0) (hp : p < P) (h0 : A 0 p = 0) : cntW (st A 0 p v) P + 1 = cntW A P := by
  induction P with
  | zero => omega
  | succ P ih =>
    rw [cntW, cntW]
    by_cases e : p = P
    · subst e
      rw [st_s, if_neg hv, if_pos h0, cntW_le (fun q hq => st_i (by omega))]
    · have := ih (by omega)
      rw [st_i (Ne.symm e)]
      omega
theorem cntW_pos : 0 < cntW A P ↔ waits P A := by
  induction P with
  | zero => exact ⟨fun h => absurd h (by simp [cntW]), fun ⟨p, h, _⟩ => by omega⟩
  | succ P ih =>
    rw [cntW]
    by_cases e : A 0 P = 0
    · rw [if_pos e]; exact ⟨fun _ => ⟨P, by omega, e⟩, fun _ => by omega⟩
    · rw [if_neg e, Nat.add_zero, ih]
      exact ⟨fun ⟨p, h, g⟩ => ⟨p, by omega, g⟩, fun ⟨p, h, g⟩ => ⟨p, by
        by_cases q : p = P
        · subst q; exact absurd g e
        · omega, g⟩⟩
theorem cntW_le' : cntW A P ≤ P := by
  induction P with
  | zero => exact Nat.le_refl 0
  | succ P ih => rw [cntW]; split <;> omega
theorem ne39 {q : Nat} (h : q < 60) : ∀ m, m < 39 ∨ 98 < m → (39 + q = m) = False := fun m hm => by
  rw [eq_iff_iff]; exact ⟨fun e => by omega, fun e => e.elim⟩
theorem ne100 {q : Nat} (h : q < 60) : ∀ m, m < 100 ∨ 159 < m → (100 + q = m) = False := fun m hm => by
  rw [eq_iff_iff]; exact ⟨fun e => by omega, fun e => e.elim⟩
theorem ne39' {q : Nat} (h : q < 60) : ∀ m, m < 39 ∨ 98 < m → (m = 39 + q) = False := fun m hm => by
  rw [eq_iff_iff]; exact ⟨fun e => by omega, fun e => e.elim⟩
theorem ne100' {q : Nat} (h : q < 60) : ∀ m, m < 100 ∨ 159 < m → (m = 100 + q) = False := fun m hm => by
  rw [eq_iff_iff]; exact ⟨fun e => by omega, fun e => e.elim⟩
/-- someone ends -/
theorem repC.fin {how : Int32} (h : repC F C0 P t N A C) (hh : ¬ how = 0) (hp : p < P) (h0 : A 0 p = 0) (hP : P ≤ 60) : repC F C0 P t N (st (st A 0 p how) 1 p (nI t)) (endC C p how (nI t)) := by
  obtain ⟨h1, h2, h3, h4, h5⟩ := h
  refine ⟨fun k hk => ?_, fun q hq => ?_, fun c hc => ?_, ?_, fun c hc => ?_⟩
  · rw [← h1 k hk]; unfold endC; rw [st_f (by omega), st_f (by omega), st_f (by omega)]
  · have := h2 q hq
    have e39 := ne39 (q := q) (by omega)
    have e100 := ne100 (q := q) (by omega)
    unfold repP endC at *
    by_cases e : q = p
    · subst e; simpa [st_r, e39, e100] using this.2.2
    · simpa [st_r, e, e39, e100] using this
  · simpa [endC, st_r] using h3 c hc
  · have e : cntW (st (st A 0 p how) 1 p (nI t)) P = cntW (st A 0 p how) P := cntW_le (fun q _ => st_k (by omega))
    have := cntW_end hh hp h0
    rw [e]
    show st (st (st C 30 p how) 31 p (nI t)) 29 18 (C 29 18 - 1) 29 18 = _
    rw [st_s, h4, ← this, nI_pred]
  · simpa [endC, ciC, st_r] using h5 c hc
/-- a cell is taken or left -/
theorem repC.cell {v : Int32} (h : repC F C0 P t N A C) (hP : P ≤ 60) : repC F C0 P t N (st A 5 b v) (st C 160 b v) := by
  obtain ⟨h1, h2, h3, h4, h5⟩ := h
  refine ⟨fun k hk => ?_, fun q hq => ?_, fun c hc => ?_, ?_, fun c hc => ?_⟩
  · rw [← h1 k hk, st_f (by omega)]
  · have := h2 q hq
    have e39 := ne39 (q := q) (by omega)
    have e100 := ne100 (q := q) (by omega)
    unfold repP at *
    simpa [st_r, e39, e100] using this
  · have := h3 c hc
    by_cases e : c = b
    · subst e; simpa [st_r] using this.2
    · simpa [st_r, e] using this
  · rw [cntW_le (A := A) (fun q _ => st_k (by omega)), st_k (by omega)]; exact h4
  · simpa [ciC, st_r] using h5 c hc
/-- a step -/
theorem repC_mv (h : repC F C0 P t N A C) (hi : inv F C0 P t A) (hF : okF F) (hP : P ≤ 60) (hp : p < P) (hc : A 4 p = nI c) (hcn : c < F.1 * F.2.1) (hk : A 3 p = nI k) (hkn : k < F.1 * F.2.1) : repC F C0 P t (upd N b (N b + 1)) (mv C0 t p b A) (mvC C p b k c t) := by
  have hn := hF.n
  obtain ⟨h1, h2, h3, h4, h5⟩ := h
  have ek : (A 3 p).toNatClampNeg = k := by rw [hk, nI_clamp (by omega)]
  have ec : pA A p = c := pA_eq hF hcn hc
  refine ⟨fun k hk => ?_, fun q hq => ?_, fun c hc => ?_, ?_, fun c hc => ?_⟩
  · rw [← h1 k hk]
    unfold mvC
    rw [st_f (by omega), st_f (by omega), st_f (by omega), st_f (by omega), st_f (by omega), st_f (by omega), st_f (by omega), st_f (by omega), st_f (by omega)]
  · obtain ⟨g0, g1, g2, g3, g4, g5, g6, g7⟩ := h2 q hq
    have e39 := ne39 (q := q) (by omega)
    have e100 := ne100 (q := q) (by omega)
    have f39 := ne39' (q := p) (by omega)
    have f100 := ne100' (q := p) (by omega)
    have x1 : (39 + q = 100 + p) = False := by rw [eq_iff_iff]; exact ⟨fun e => by omega, fun e => e.elim⟩
    have x2 : (100 + q = 39 + p) = False := by rw [eq_iff_iff]; exact ⟨fun e => by omega, fun e => e.elim⟩
    have hC25 : C 25 = C0 25 := h1 25 (by omega)
    unfold repP mvC mv
    rw [ek, ec]
    by_cases e : q = p
    · subst e
      rw [hk, nI_1]
      refine ⟨by simpa [st_r, f39, f100] using g0, by simpa [st_r, f39, f100] using g1, by simpa [st_r, f39, f100] using g2, by simp [st_r], by simp [st_r, f39, f100], by simp [st_r, f39, f100, hC25], by simpa [st_r, f39, f100] using g6, fun j hj => ?_⟩
      have hj : j < k + 1 := by
        have : (st (st (st (st (st (st (st A 5 c (-1)) 6 b (A 6 b + 1)) 7 (600 * q + k) (nI t)) 8 (600 * q + k) (nI b)) 3 q (nI (k + 1))) 9 q (nI t + C0 25 q)) 4 q (nI b) 3 q) = nI (k + 1) := by simp [st_r]
        rw [this, nI_clamp (by omega)] at hj
        exact hj
      by_cases ej : j = k
      · subst ej; simp [st_r, e39, e100, f39, f100, x1, x2]
      · have := g7 j (by rw [hk, nI_clamp (by omega)]; omega)
        simpa [st_r, e39, e100, f39, f100, x1, x2, ej] using this
    · have y1 : (39 + q = 39 + p) = False := by rw [eq_iff_iff]; exact ⟨fun e => by omega, fun e => e.elim⟩
      have y2 : (100 + q = 100 + p) = False := by rw [eq_iff_iff]; exact ⟨fun e => by omega, fun e => e.elim⟩
      refine ⟨by simpa [st_r, f39, f100] using g0, by simpa [st_r, f39, f100] using g1, by simpa [st_r, f39, f100] using g2, by simpa [st_r, f39, f100, e] using g3, by simpa [st_r, f39, f100, e] using g4, by simpa [st_r, f39, f100, e] using g5, by simpa [st_r, f39, f100] using g6, fun j hj => ?_⟩
      obtain ⟨-, ⟨kq, kq1, kq2, -⟩, -⟩ := hi.1 q hq
      have hj : j < (A 3 q).toNatClampNeg := by simpa [st_r, e] using hj
      have hjn : j < 576 := by rw [kq1, nI_clamp (by omega)] at hj; omega
      have z1 : (600 * q + j = 600 * p + k) = False := by rw [eq_iff_iff]; exact ⟨fun e => by omega, fun e => e.elim⟩
      have := g7 j hj
      simpa [st_r, e39, e100, f39, f100, x1, x2, e, z1] using this
  · have := h3 c hc
    have f39 := ne39' (q := p) (by omega)
    have f100 := ne100' (q := p) (by omega)
    unfold mvC mv
    rw [ec]
    refine ⟨?_, ?_⟩
    · simp [st_r, f39, f100, this.1]
    · by_cases e : c = b
      · subst e; simp [st_r, f39, f100, this.2]
      · simpa [st_r, f39, f100, e] using this.2
  · have f39 := ne39' (q := p) (by omega)
    have f100 := ne100' (q := p) (by omega)
    have e : cntW (mv C0 t p b A) P = cntW A P := cntW_le (fun q _ => by simp [mv, st_r])
    rw [e, ← h4]
    simp [mvC, st_r, f39, f100]
  · have f39 := ne39' (q := p) (by omega)
    have f100 := ne100' (q := p) (by omega)
    obtain ⟨g1, s, g2, g3⟩ := h5 c hc
    unfold mvC ciC upd
    unfold ciC at g1
    by_cases e : c = b
    · subst e
      refine ⟨?_, t, Nat.le_refl t, by simp [st_r, f39, f100]⟩
      simp [st_r, f39, f100, g1]
    · refine ⟨?_, s, g2, by simpa [st_r, f39, f100, e] using g3⟩
      simpa [st_r, f39, f100, e] using g1
end
