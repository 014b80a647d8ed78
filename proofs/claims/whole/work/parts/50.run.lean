/-! A RUN, without a machine. The state of a run: A 0 state, 1 end, 2 exit, 3 steps, 4 place (by person); 5 who, 6 came (by cell); 7 seconds, 8 cells of the steps (600 * person + step); 9 may step from (by person). N: who came in this second (by cell) -/
/-- the cells that a run goes by -/
def cfg (C C' : Ct) : Prop := ∀ k, ((1 ≤ k ∧ k ≤ 9) ∨ (23 ≤ k ∧ k ≤ 28)) → C' k = C k
/-- the walking numbers of row r (0: to all exits; e + 1: to exit e) -/
noncomputable def nuC (F : Fx) (C : Ct) (r : Nat) : Nat → Int32 := Classical.epsilon (fun row => rowOk F C (nI r - 1) row)
section
variable {F : Fx} {C : Ct}
theorem row_ex (hF : okF F) (hS : okS F C) {r : Nat} (hr : r < 9) : ∃ row, rowOk F C (nI r - 1) row := by
  obtain ⟨n, o, h', -, row, qf, -, -, h⟩ := Y_find (J := fun _ => 0) (G := (fun _ => mNo, 0, 0)) (g := nI r - 1) hF hS hr
  exact ⟨row, h⟩
theorem nuC_ok (hF : okF F) (hS : okS F C) {r : Nat} (hr : r < 9) : rowOk F C (nI r - 1) (nuC F C r) := Classical.epsilon_spec (p := fun row => rowOk F C (nI r - 1) row) (row_ex hF hS hr)
theorem row_eq {g : Int32} {r1 r2 : Nat → Int32} (h1 : rowOk F C g r1) (h2 : rowOk F C g r2) {c : Nat} (hc : c < F.1 * F.2.1) : r1 c = r2 c := by
  rcases h1 c hc with ⟨e1, n1⟩ | ⟨d, hd, e1, n1⟩ <;> rcases h2 c hc with ⟨e2, m1⟩ | ⟨d', hd', e2, m1⟩
  · rw [e1, e2]
  · exact absurd m1.1 (n1 d')
  · exact absurd n1.1 (m1 d)
  · rw [e1, e2, n1.uniq m1]
theorem nuC_row (hF : okF F) (hS : okS F C) {r : Nat} (hr : r < 9) {row : Nat → Int32} (h : rowOk F C (nI r - 1) row) {c : Nat} (hc : c < F.1 * F.2.1) : row c = nuC F C r c := row_eq h (nuC_ok hF hS hr) hc
theorem nu_or (hF : okF F) (hS : okS F C) {r c : Nat} (hr : r < 9) (hc : c < F.1 * F.2.1) : nuC F C r c = -1 ∨ ∃ d, d < F.1 * F.2.1 ∧ nuC F C r c = nI d := by
  rcases nuC_ok hF hS hr c hc with ⟨e, -⟩ | ⟨d, hd, e, -⟩
  · exact Or.inl e
  · exact Or.inr ⟨d, hd, e⟩
theorem nu_no (hF : okF F) (hS : okS F C) {r c : Nat} (hr : r < 9) (hc : c < F.1 * F.2.1) : nuC F C r c = -1 ↔ ∀ k, ¬ Rch (F.1 * F.2.1) (nbC C) (glC C (nI r - 1)) (opC C) k c := by
  have hn := hF.n
  rcases nuC_ok hF hS hr c hc with ⟨e, h⟩ | ⟨d, hd, e, h⟩
  · exact ⟨fun _ => h, fun _ => e⟩
  · exact ⟨fun e2 => by rw [e] at e2; exact absurd e2 (nI_nm1 (by omega)), fun h2 => absurd h.1 (h2 d)⟩
/-- beside a cell that has a number all open ones have one -/
theorem nu_nb (hF : okF F) (hS : okS F C) {r c w b : Nat} (hr : r < 9) (hc : c < F.1 * F.2.1) (ho : opC C c) (hw : w < 4) (hb : nbC C c w = some b) : nuC F C r b = -1 ↔ nuC F C r c = -1 := by
  have hb2 := nbC_in hF hS hc hw hb
  rw [nu_no hF hS hr hc, nu_no hF hS hr hb2.1]
  constructor
  · intro h k hk
    obtain ⟨w', hw', e⟩ := hS.sym hF c w b ho hc hw hb
    exact h (k + 1) (Or.inr ⟨hb2.2, w', c, hw', e, hk⟩)
  · intro h k hk
    exact h (k + 1) (Or.inr ⟨ho, w, b, hw, hb, hk⟩)
theorem nu_zero (hF : okF F) (hS : okS F C) {r c : Nat} (hr : r < 9) (hc : c < F.1 * F.2.1) : nuC F C r c = 0 ↔ glC C (nI r - 1) c := by
  have hn := hF.n
  rcases nuC_ok hF hS hr c hc with ⟨e, h⟩ | ⟨d, hd, e, h1, h2⟩
  · rw [e]
    exact ⟨fun q => absurd q (by decide), fun q => absurd ⟨hc, q⟩ (h 0)⟩
  · rw [e]
    constructor
    · intro q
      have : d = 0 := (nI_eq (b := 0) (by omega) (by omega)).mp q
      subst this
      exact h1.2
    · intro q
      by_cases e0 : d = 0
      · rw [e0]; rfl
      · exact absurd ⟨hc, q⟩ (h2 0 (by omega))
end
def brd (C : Ct) (c t : Nat) : Prop := ¬ C 4 c = -1 ∧ C 4 c ≤ nI t
def hasR (C : Ct) (c : Nat) : Prop := C 2 c = 2 ∨ C 2 c = 3
/-- where a person starts; the row of its habit; the row that it goes by -/
def s0 (C : Ct) (p : Nat) : Nat := (C 24 p).toNatClampNeg
def hRow (C : Ct) (p : Nat) : Nat := (C 27 p + 1).toNatClampNeg
noncomputable def gRow (F : Fx) (C : Ct) (p : Nat) : Nat := m_if (nuC F C (hRow C p) (s0 C p) = -1) 0 (hRow C p)
def pA (A : Ct) (p : Nat) : Nat := (A 4 p).toNatClampNeg
/-- may the cell b be entered -/
def ent (C A : Ct) (N : Nat → Int32) (t b : Nat) : Prop := A 5 b = -1 ∧ ¬ brd C b t ∧ (¬ hasR C b ∨ N b < C 3 b)
def good (F : Fx) (C A : Ct) (N : Nat → Int32) (t r c b : Nat) : Prop := (¬ nuC F C r b = -1 ∧ nuC F C r b < nuC F C r c) ∧ ent C A N t b
/-- the first cell to step to, of the last d ways -/
noncomputable def tgt (F : Fx) (C A : Ct) (N : Nat → Int32) (t r c : Nat) : Nat → Option Nat
  | 0 => none
  | d + 1 => match nbC C c (3 - d) with
    | some b => m_if (good F C A N t r c b) (some b) (tgt F C A N t r c d)
    | none => tgt F C A N t r c d
def mv (C : Ct) (t p b : Nat) (A : Ct) : Ct := st (st (st (st (st (st (st A 5 (pA A p) (-1)) 6 b (A 6 b + 1)) 7 (600 * p + (A 3 p).toNatClampNeg) (nI t)) 8 (600 * p + (A 3 p).toNatClampNeg) (nI b)) 3 p (A 3 p + 1)) 9 p (nI t + C 25 p)) 4 p (nI b)
noncomputable def stp (F : Fx) (C : Ct) (t p b : Nat) (A : Ct) : Ct := m_if (nuC F C (gRow F C p) b = 0) (st (st (st (mv C t p b A) 0 p 1) 1 p (nI t)) 2 p (C 5 b)) (st (mv C t p b A) 5 b (nI p))
noncomputable def go1 (F : Fx) (C : Ct) (t : Nat) (z : Ct × (Nat → Int32)) (p : Nat) : Ct × (Nat → Int32) := match tgt F C z.1 z.2 t (gRow F C p) (pA z.1 p) 4 with
  | some b => (stp F C t p b z.1, upd z.2 b (z.2 b + 1))
  | none => z
/-- smoke: the persons below i -/
noncomputable def ctI (C : Ct) (t : Nat) (A : Ct) : Nat → Ct
  | 0 => A
  | i + 1 => m_if (ctI C t A i 0 i = 0 ∧ brd C (pA (ctI C t A i) i) t) (st (st (st (ctI C t A i) 5 (pA (ctI C t A i) i) (-1)) 0 i 2) 1 i (nI t)) (ctI C t A i)
noncomputable def nuP (F : Fx) (C A : Ct) (p : Nat) : Int32 := nuC F C (gRow F C p) (pA A p)
/-- who may step -/
def cand (F : Fx) (C A : Ct) (t p : Nat) : Prop := A 0 p = 0 ∧ A 9 p ≤ nI t ∧ ¬ nuP F C A p = -1
def lx (F : Fx) (C A : Ct) (a b : Nat) : Prop := nuP F C A a < nuP F C A b ∨ (nuP F C A a = nuP F C A b ∧ a < b)
/-- the order of those below i who may step -/
def Ord (F : Fx) (C A : Ct) (t i : Nat) (l : List Nat) : Prop := l.Pairwise (lx F C A) ∧ ∀ p, p ∈ l ↔ p < i ∧ cand F C A t p
noncomputable def ordL (F : Fx) (C A : Ct) (t i : Nat) : List Nat := Classical.epsilon (fun l => Ord F C A t i l)
/-- a second -/
noncomputable def sec (F : Fx) (C : Ct) (P t : Nat) (A : Ct) : Ct := ((ordL F C (ctI C t A P) t P).foldl (go1 F C t) (ctI C t A P, fun _ => 0)).1
def waits (P : Nat) (A : Ct) : Prop := ∃ p, p < P ∧ A 0 p = 0
/-- the run from second t on, so many seconds at most -/
noncomputable def runF (F : Fx) (C : Ct) (P : Nat) : Nat → Nat → Ct → Nat × Ct
  | 0, t, A => (t, A)
  | d + 1, t, A => m_if (waits P A) (runF F C P d (t + 1) (sec F C P (t + 1) A)) (t, A)
/-- how it begins -/
def bgn (C : Ct) : Ct := fun f i => if f = 1 ∨ f = 2 then -1 else if f = 4 then C 24 i else if f = 5 then C 28 i else if f = 9 then C 26 i + C 25 i else 0
noncomputable def fin (F : Fx) (C : Ct) (P : Nat) : Nat × Ct := runF F C P 3600 0 (bgn C)
/-! the order -/
section
variable {F : Fx} {C A : Ct} {t : Nat}
theorem i32_irr (a : Int32) : ¬ a < a := fun h => Int32.not_lt.mpr (Int32.le_refl a) h
theorem lx_asym {a b : Nat} (h1 : lx F C A a b) (h2 : lx F C A b a) : False := by
  rcases h1 with h1 | ⟨e1, h1⟩ <;> rcases h2 with h2 | ⟨e2, h2⟩
  · exact i32_irr _ (Int32.lt_trans h1 h2)
  · rw [e2] at h1; exact i32_irr _ h1
  · rw [e1] at h2; exact i32_irr _ h2
  · omega
theorem pw_uniq : ∀ (l1 l2 : List Nat), l1.Pairwise (lx F C A) → l2.Pairwise (lx F C A) → (∀ p, p ∈ l1 ↔ p ∈ l2) → l1 = l2 := by
  intro l1
  induction l1 with
  | nil =>
    intro l2 _ _ h
    cases l2 with
    | nil => rfl
    | cons b t2 => exact absurd ((h b).mpr (List.mem_cons_self ..)) (by simp)
  | cons a t1 ih =>
    intro l2 h1 h2 h
    cases l2 with
    | nil => exact absurd ((h a).mp (List.mem_cons_self ..)) (by simp)
    | cons b t2 =>
      have hab : a = b := by
        have m1 := (h a).mp (List.mem_cons_self ..)
        have m2 := (h b).mpr (List.mem_cons_self ..)
        rcases List.mem_cons.mp m1 with e | m1
        · exact e
        rcases List.mem_cons.mp m2 with e | m2
        · exact e.symm
        exact (lx_asym ((List.pairwise_cons.mp h1).1 b m2) ((List.pairwise_cons.mp h2).1 a m1)).elim
      subst hab
      have n1 : a ∉ t1 := fun m => lx_asym ((List.pairwise_cons.mp h1).1 a m) ((List.pairwise_cons.mp h1).1 a m)
      have n2 : a ∉ t2 := fun m => lx_asym ((List.pairwise_cons.mp h2).1 a m) ((List.pairwise_cons.mp h2).1 a m)
      rw [ih t2 (List.pairwise_cons.mp h1).2 (List.pairwise_cons.mp h2).2 (fun p => ⟨fun m => by
        rcases List.mem_cons.mp ((h p).mp (List.mem_cons_of_mem _ m)) with e | m'
        · subst e; exact absurd m n1
        · exact m', fun m => by
        rcases List.mem_cons.mp ((h p).mpr (List.mem_cons_of_mem _ m)) with e | m'
        · subst e; exact absurd m n2
        · exact m'⟩)]
theorem Ord.uniq {i : Nat} {l1 l2 : List Nat} (h1 : Ord F C A t i l1) (h2 : Ord F C A t i l2) : l1 = l2 :=
  pw_uniq l1 l2 h1.1 h2.1 (fun p => (h1.2 p).trans (h2.2 p).symm)
/-- one more is put in its place: behind all whose number is not greater -/
theorem Ord.ins {i : Nat} {l1 l2 : List Nat} (h : Ord F C A t i (l1 ++ l2)) (hc : cand F C A t i) (hl : ∀ p, p ∈ l1 → nuP F C A p ≤ nuP F C A i) (hr : ∀ p, p ∈ l2 → nuP F C A i < nuP F C A p) : Ord F C A t (i + 1) (l1 ++ i :: l2) := by
  obtain ⟨h1, h2⟩ := h
  rw [List.pairwise_append] at h1
  refine ⟨?_, fun p => ?_⟩
  · rw [List.pairwise_append]
    refine ⟨h1.1, List.pairwise_cons.mpr ⟨fun p hp => Or.inl (hr p hp), h1.2.1⟩, fun a ha b hb => ?_⟩
    rcases List.mem_cons.mp hb with e | hb
    · subst e
      have hlt : a < b := ((h2 a).mp (List.mem_append_left _ ha)).1
      rcases Int32.lt_or_eq_of_le (hl a ha) with q | q
      · exact Or.inl q
      · exact Or.inr ⟨q, hlt⟩
    · exact h1.2.2 a ha b hb
  · constructor
    · intro hp
      rcases List.mem_append.mp hp with m | m
      · have := (h2 p).mp (List.mem_append_left _ m)
        exact ⟨by omega, this.2⟩
      · rcases List.mem_cons.mp m with e | m
        · subst e; exact ⟨by omega, hc⟩
        · have := (h2 p).mp (List.mem_append_right _ m)
          exact ⟨by omega, this.2⟩
    · rintro ⟨hp, hcp⟩
      by_cases e : p = i
      · subst e; exact List.mem_append_right _ (List.mem_cons_self ..)
      · rcases List.mem_append.mp ((h2 p).mpr ⟨by omega, hcp⟩) with m | m
        · exact List.mem_append_left _ m
        · exact List.mem_append_right _ (List.mem_cons_of_mem _ m)
theorem Ord.skip {i : Nat} {l : List Nat} (h : Ord F C A t i l) (hc : ¬ cand F C A t i) : Ord F C A t (i + 1) l :=
  ⟨h.1, fun p => (h.2 p).trans ⟨fun q => ⟨by omega, q.2⟩, fun q => ⟨by
    by_cases e : p = i
    · subst e; exact absurd q.2 hc
    · omega, q.2⟩⟩⟩
theorem Ord.nil : Ord F C A t 0 [] := ⟨List.Pairwise.nil, fun p => ⟨fun h => (by cases h), fun h => by omega⟩⟩
/-- a sorted list is parted at any number -/
theorem pw_part (n : Int32) : ∀ l : List Nat, l.Pairwise (lx F C A) → ∃ l1 l2, l = l1 ++ l2 ∧ (∀ p, p ∈ l1 → nuP F C A p ≤ n) ∧ ∀ p, p ∈ l2 → n < nuP F C A p := by
  intro l
  induction l with
  | nil => intro _; exact ⟨[], [], rfl, fun p h => (by cases h), fun p h => (by cases h)⟩
  | cons a l ih =>
    intro h
    obtain ⟨ha, hl⟩ := List.pairwise_cons.mp h
    by_cases q : nuP F C A a ≤ n
    · obtain ⟨l1, l2, e, h1, h2⟩ := ih hl
      refine ⟨a :: l1, l2, by rw [e]; rfl, fun p hp => ?_, h2⟩
      rcases List.mem_cons.mp hp with e | m
      · subst e; exact q
      · exact h1 p m
    · have q := Int32.not_le.mp q
      refine ⟨[], a :: l, rfl, fun p h => (by cases h), fun p hp => ?_⟩
      rcases List.mem_cons.mp hp with e | m
      · subst e; exact q
      · rcases ha p m with g | ⟨g, -⟩
        · exact Int32.lt_trans q g
        · rw [← g]; exact q
theorem Ord.ex : ∀ i, ∃ l, Ord F C A t i l := by
  intro i
  induction i with
  | zero => exact ⟨[], Ord.nil⟩
  | succ i ih =>
    obtain ⟨l, h⟩ := ih
    by_cases hc : cand F C A t i
    · obtain ⟨l1, l2, e, h1, h2⟩ := pw_part (F := F) (C := C) (A := A) (nuP F C A i) l h.1
      subst e
      exact ⟨_, h.ins hc h1 h2⟩
    · exact ⟨l, h.skip hc⟩
theorem ordL_ok (i : Nat) : Ord F C A t i (ordL F C A t i) := Classical.epsilon_spec (p := fun l => Ord F C A t i l) (Ord.ex i)
theorem ordL_eq {i : Nat} {l : List Nat} (h : Ord F C A t i l) : l = ordL F C A t i := h.uniq (ordL_ok i)
end
