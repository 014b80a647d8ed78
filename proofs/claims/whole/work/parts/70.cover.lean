/-! the least number of sets that cover all -/
def orL : List Nat → Nat
  | [] => 0
  | m :: l => m ||| orL l
/-- bits below k that have q -/
noncomputable def msk (q : Nat → Prop) : Nat → Nat
  | 0 => 0
  | t + 1 => m_if (q t) (2 ^ t) 0 ||| msk q t
theorem orL_bit {t : Nat} : ∀ {l : List Nat}, (orL l).testBit t = true ↔ ∃ m, m ∈ l ∧ m.testBit t = true := by
  intro l
  induction l with
  | nil => simp [orL]
  | cons a l ih => rw [orL, Nat.testBit_or, Bool.or_eq_true, ih]; simp
theorem msk_bit {q : Nat → Prop} {t : Nat} : ∀ {k : Nat}, (msk q k).testBit t = true ↔ t < k ∧ q t := by
  intro k
  induction k with
  | zero => simp [msk]
  | succ k ih =>
    rw [msk, Nat.testBit_or, Bool.or_eq_true, ih]
    by_cases h : q k
    · rw [m_if_t h, Nat.testBit_two_pow]
      constructor
      · rintro (h1 | h1)
        · have : k = t := of_decide_eq_true h1
          subst this; exact ⟨by omega, h⟩
        · exact ⟨by omega, h1.2⟩
      · rintro ⟨h1, h2⟩
        by_cases e : t = k
        · left; exact decide_eq_true e.symm
        · right; exact ⟨by omega, h2⟩
    · rw [m_if_f h]
      constructor
      · rintro (h1 | h1)
        · rw [Nat.zero_testBit] at h1; cases h1
        · exact ⟨by omega, h1.2⟩
      · rintro ⟨h1, h2⟩
        by_cases e : t = k
        · subst e; exact absurd h2 h
        · right; exact ⟨by omega, h2⟩
theorem msk_lt {q : Nat → Prop} {k : Nat} : msk q k < 2 ^ k := by
  induction k with
  | zero => simp [msk]
  | succ k ih =>
    rw [msk]
    refine Nat.or_lt_two_pow ?_ (Nat.lt_trans ih (Nat.pow_lt_pow_right (by omega) (by omega)))
    by_cases h : q k
    · rw [m_if_t h]; exact Nat.pow_lt_pow_right (by omega) (by omega)
    · rw [m_if_f h]; exact Nat.two_pow_pos _
theorem bit_all {k i : Nat} : (2 ^ k - 1).testBit i = decide (i < k) := Nat.testBit_two_pow_sub_one k i
theorem zero_bit {s k : Nat} (h : s < 2 ^ k - 1) : ∃ t, t < k ∧ s.testBit t = false := by
  refine Classical.byContradiction fun q => ?_
  have : s = 2 ^ k - 1 := by
    refine Nat.eq_of_testBit_eq fun i => ?_
    rw [bit_all]
    by_cases hi : i < k
    · rw [decide_eq_true hi]
      cases e : s.testBit i with
      | true => rfl
      | false => exact absurd ⟨i, hi, e⟩ q
    · rw [decide_eq_false hi]
      exact Nat.testBit_lt_two_pow (Nat.lt_of_lt_of_le (by omega : s < 2 ^ k) (Nat.pow_le_pow_right (by omega) (by omega)))
  omega
/-- what the two tables have in common: from each set on, some bit more can be had at the cost of one -/
def stepF (fam : Nat → Prop) (k : Nat) (f : Nat → Nat) : Prop := ∀ s, s < 2 ^ k - 1 → f s + 1 ≤ 12 → ∃ t, t < k ∧ s.testBit t = false ∧ ∀ m, fam m → m.testBit t = true → f (s ||| m) ≤ f s + 1
def sndF (fam : Nat → Prop) (f : Nat → Nat) (S : Nat) : Prop := f S ≤ 12 → ∃ l : List Nat, l.length = f S ∧ (∀ m, m ∈ l → fam m) ∧ orL l = S
theorem orL_erase {m : Nat} : ∀ {l : List Nat}, m ∈ l → ∃ l', l'.length + 1 = l.length ∧ (∀ x, x ∈ l' → x ∈ l) ∧ m ||| orL l' = orL l := by
  intro l
  induction l with
  | nil => intro h; cases h
  | cons a l ih =>
    intro h
    rcases List.mem_cons.mp h with e | h
    · subst e
      exact ⟨l, rfl, fun x hx => List.mem_cons_of_mem _ hx, rfl⟩
    · obtain ⟨l', h1, h2, h3⟩ := ih h
      refine ⟨a :: l', by rw [List.length_cons, List.length_cons, h1], fun x hx => ?_, ?_⟩
      · rcases List.mem_cons.mp hx with e | hx
        · subst e; exact List.mem_cons_self ..
        · exact List.mem_cons_of_mem _ (h2 x hx)
      · rw [orL, orL, ← h3, ← Nat.or_assoc, ← Nat.or_assoc, Nat.or_comm m a]
theorem cov_le {fam : Nat → Prop} {k : Nat} {f : Nat → Nat} (hfam : ∀ m, fam m → m < 2 ^ k) (hs : stepF fam k f) : ∀ n (l : List Nat) s, l.length = n → (∀ m, m ∈ l → fam m) → s < 2 ^ k → s ||| orL l = 2 ^ k - 1 → f s + n ≤ 12 → f (2 ^ k - 1) ≤ f s + n := by
  intro n
  induction n with
  | zero =>
    intro l s hl _ _ ho _
    have : l = [] := List.length_eq_zero_iff.mp hl
    subst this
    rw [orL, Nat.or_zero] at ho
    rw [ho]; omega
  | succ n ih =>
    intro l s hl hm hsk ho h12
    by_cases e : s = 2 ^ k - 1
    · rw [← e]; omega
    · obtain ⟨t, ht, hb, hst⟩ := hs s (by omega) (by omega)
      have : (s ||| orL l).testBit t = true := by rw [ho, bit_all, decide_eq_true ht]
      rw [Nat.testBit_or, hb, Bool.false_or, orL_bit] at this
      obtain ⟨m, hml, hmb⟩ := this
      obtain ⟨l', h1, h2, h3⟩ := orL_erase hml
      have hmk := hfam m (hm m hml)
      have := ih l' (s ||| m) (by omega) (fun x hx => hm x (h2 x hx)) (Nat.or_lt_two_pow hsk hmk) (by rw [Nat.or_assoc, h3]; exact ho) (by have := hst m (hm m hml) hmb; omega)
      have := hst m (hm m hml) hmb
      omega
theorem cov_eq {fam : Nat → Prop} {k : Nat} {f g : Nat → Nat} (hk : k ≤ 12) (hfam : ∀ m, fam m → m < 2 ^ k) (hf : stepF fam k f) (hg : stepF fam k g) (sf : sndF fam f (2 ^ k - 1)) (sg : sndF fam g (2 ^ k - 1)) (f0 : f 0 = 0) (g0 : g 0 = 0) (hall : ∀ t, t < k → ∃ m, fam m ∧ m.testBit t = true) : f (2 ^ k - 1) = g (2 ^ k - 1) ∧ f (2 ^ k - 1) ≤ 12 := by
  have hp : 0 < 2 ^ k := Nat.two_pow_pos k
  have hex : ∃ l : List Nat, l.length = k ∧ (∀ m, m ∈ l → fam m) ∧ ∀ t, t < k → (orL l).testBit t = true := by
    have : ∀ j, j ≤ k → ∃ l : List Nat, l.length = j ∧ (∀ m, m ∈ l → fam m) ∧ ∀ t, t < j → (orL l).testBit t = true := by
      intro j
      induction j with
      | zero => intro _; exact ⟨[], rfl, fun m h => (by cases h), fun t h => by omega⟩
      | succ j ih =>
        intro hj
        obtain ⟨l, h1, h2, h3⟩ := ih (by omega)
        obtain ⟨m, hm, hb⟩ := hall j (by omega)
        refine ⟨m :: l, by rw [List.length_cons, h1], fun x hx => ?_, fun t ht => ?_⟩
        · rcases List.mem_cons.mp hx with e | hx
          · subst e; exact hm
          · exact h2 x hx
        · rw [orL, Nat.testBit_or, Bool.or_eq_true]
          by_cases e : t = j
          · subst e; exact Or.inl hb
          · exact Or.inr (h3 t (by omega))
    exact this k (Nat.le_refl k)
  have orlt : ∀ l : List Nat, (∀ m, m ∈ l → fam m) → orL l < 2 ^ k := by
    intro l
    induction l with
    | nil => intro _; exact hp
    | cons a l ih => intro h; rw [orL]; exact Nat.or_lt_two_pow (hfam a (h a (List.mem_cons_self ..))) (ih (fun m hm => h m (List.mem_cons_of_mem _ hm)))
  obtain ⟨l, h1, h2, h3⟩ := hex
  have hol : orL l = 2 ^ k - 1 := by
    refine Nat.eq_of_testBit_eq fun i => ?_
    rw [bit_all]
    by_cases hi : i < k
    · rw [decide_eq_true hi]; exact h3 i hi
    · rw [decide_eq_false hi]
      exact Nat.testBit_lt_two_pow (Nat.lt_of_lt_of_le (orlt l h2) (Nat.pow_le_pow_right (by omega) (by omega)))
  have a1 := cov_le hfam hf k l 0 h1 h2 hp (by rw [Nat.zero_or]; exact hol) (by omega)
  have b1 := cov_le hfam hg k l 0 h1 h2 hp (by rw [Nat.zero_or]; exact hol) (by omega)
  obtain ⟨lf, f1, f2, f3⟩ := sf (by omega)
  obtain ⟨lg, g1, g2, g3⟩ := sg (by omega)
  have a2 := cov_le hfam hf _ lg 0 g1 g2 hp (by rw [Nat.zero_or]; exact g3) (by omega)
  have b2 := cov_le hfam hg _ lf 0 f1 f2 hp (by rw [Nat.zero_or]; exact f3) (by omega)
  omega
theorem nI_or (a b : Nat) : nI a ||| nI b = nI (a ||| b) := by
  unfold nI
  apply Int32.toBitVec_inj.mp
  show BitVec.ofNat 32 a ||| BitVec.ofNat 32 b = BitVec.ofNat 32 (a ||| b)
  rw [BitVec.ofNat_or]
theorem nI_and (a b : Nat) : nI a &&& nI b = nI (a &&& b) := by
  unfold nI
  apply Int32.toBitVec_inj.mp
  show BitVec.ofNat 32 a &&& BitVec.ofNat 32 b = BitVec.ofNat 32 (a &&& b)
  rw [BitVec.ofNat_and]
theorem shl1 : ∀ t, t < 13 → (1 : Int32) <<< (nI t &&& 31) = nI (2 ^ t) := by decide +kernel
/-- the lowest bit that a set lacks -/
def lowz (s : Nat) : Nat := (List.range 13).findIdx (fun t => s.testBit t = false)
theorem first_ok0 : ∀ a, a < 64 → ∀ b, b < 64 → ((nI (64 * a + b) ^^^ (-1 : Int32)) &&& (nI (64 * a + b) + 1)) = nI (2 ^ (lowz (64 * a + b))) ∧ lowz (64 * a + b) < 13 ∧ (64 * a + b).testBit (lowz (64 * a + b)) = false ∧ ∀ u, u < lowz (64 * a + b) → (64 * a + b).testBit u = true := by decide +kernel
theorem first_ok {s : Nat} (h : s < 4096) : ((nI s ^^^ (-1 : Int32)) &&& (nI s + 1)) = nI (2 ^ (lowz s)) ∧ lowz s < 13 ∧ s.testBit (lowz s) = false ∧ ∀ u, u < lowz s → s.testBit u = true := by
  have := first_ok0 (s / 64) (by omega) (s % 64) (by omega)
  rw [show 64 * (s / 64) + s % 64 = s by omega] at this
  exact this
theorem lowz_lt {s k : Nat} (hk : k ≤ 12) (h : s < 2 ^ k - 1) : lowz s < k := by
  have h4 : 2 ^ k ≤ 4096 := Nat.pow_le_pow_right (n := 2) (by omega) hk
  obtain ⟨t, ht, hb⟩ := zero_bit h
  have := (first_ok (show s < 4096 by omega)).2.2.2
  refine Classical.byContradiction fun q => ?_
  have := this t (by omega)
  rw [hb] at this
  cases this
