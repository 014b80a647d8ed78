/-! a second without a change, and the seconds behind it -/
def quiet (F : Fx) (C : Ct) (P t : Nat) (A : Ct) : Prop := (∀ p, p < P → A 0 p = 0 → ¬ brd C (pA A p) t) ∧ ∀ p, p < P → cand F C A t p → tgt F C A (fun _ => 0) t (gRow F C p) (pA A p) 4 = none
section
variable {F : Fx} {C A : Ct} {P t u : Nat} {N : Nat → Int32}
theorem tgt_none {r c : Nat} : ∀ d, d ≤ 4 → (tgt F C A N t r c d = none ↔ ∀ w b, 4 - d ≤ w → w < 4 → nbC C c w = some b → ¬ good F C A N t r c b) := by
  intro d
  induction d with
  | zero => intro _; exact ⟨fun _ w b h1 h2 => by omega, fun _ => rfl⟩
  | succ d ih =>
    intro hd
    have ih := ih (by omega)
    rw [tgt]
    have hs : ∀ w, 4 - (d + 1) ≤ w → w < 4 → w = 3 - d ∨ (4 - d ≤ w) := fun w h1 h2 => by omega
    cases hb : nbC C c (3 - d) with
    | none =>
      dsimp only
      rw [ih]
      exact ⟨fun h w b h1 h2 h3 => by
        rcases hs w h1 h2 with e | e
        · subst e; rw [hb] at h3; cases h3
        · exact h w b e h2 h3, fun h w b h1 h2 h3 => h w b (by omega) h2 h3⟩
    | some b' =>
      dsimp only
      by_cases g : good F C A N t r c b'
      · rw [m_if_t g]
        exact ⟨fun h => (by cases h), fun h => absurd g (h (3 - d) b' (by omega) (by omega) hb)⟩
      · rw [m_if_f g, ih]
        exact ⟨fun h w b h1 h2 h3 => by
          rcases hs w h1 h2 with e | e
          · subst e; rw [hb] at h3; cases h3; exact g
          · exact h w b e h2 h3, fun h w b h1 h2 h3 => h w b (by omega) h2 h3⟩
theorem ct_quiet (h : ∀ p, p < P → A 0 p = 0 → ¬ brd C (pA A p) t) : ∀ i, i ≤ P → ctI C t A i = A := by
  intro i
  induction i with
  | zero => intro _; rfl
  | succ i ih =>
    intro hi
    rw [ctI, ih (by omega)]
    exact m_if_f (fun q => h i (by omega) q.1 q.2)
theorem fold_quiet : ∀ (l : List Nat), (∀ p, p ∈ l → tgt F C A N t (gRow F C p) (pA A p) 4 = none) → l.foldl (go1 F C t) (A, N) = (A, N) := by
  intro l
  induction l with
  | nil => intro _; rfl
  | cons a l ih =>
    intro h
    have ha : go1 F C t (A, N) a = (A, N) := by
      unfold go1
      rw [h a (List.mem_cons_self ..)]
    rw [List.foldl_cons, ha]
    exact ih (fun p hp => h p (List.mem_cons_of_mem _ hp))
theorem sec_quiet (h : quiet F C P t A) : sec F C P t A = A := by
  unfold sec
  rw [ct_quiet h.1 P (Nat.le_refl P), fold_quiet _ (fun p hp => by
    have := ((ordL_ok P).2 p).mp hp
    exact h.2 p this.1 this.2)]
theorem brd_mono {c : Nat} (hu : u ≤ 3600) (h : t ≤ u) (hb : brd C c t) : brd C c u := ⟨hb.1, Int32.le_trans hb.2 (nI_le h (by omega))⟩
theorem quiet_skip (h : quiet F C P t A) (htu : t ≤ u) (hu : u ≤ 3600) (h9 : ∀ p, p < P → A 0 p = 0 → A 9 p ≤ nI t ∨ nI u < A 9 p) (h4 : ∀ p, p < P → A 0 p = 0 → C 4 (pA A p) ≤ nI t ∨ nI u < C 4 (pA A p)) : quiet F C P u A := by
  refine ⟨fun p hp h0 hb => ?_, fun p hp hc => ?_⟩
  · rcases h4 p hp h0 with q | q
    · exact h.1 p hp h0 ⟨hb.1, q⟩
    · exact i32_irr _ (Int32.lt_of_lt_of_le q hb.2)
  · have hct : cand F C A t p := by
      refine ⟨hc.1, ?_, hc.2.2⟩
      rcases h9 p hp hc.1 with q | q
      · exact q
      · exact absurd (Int32.lt_of_lt_of_le q hc.2.1) (i32_irr _)
    have hn := h.2 p hp hct
    rw [tgt_none 4 (Nat.le_refl 4)] at hn ⊢
    intro w b h1 h2 h3 hg
    refine hn w b h1 h2 h3 ⟨hg.1, hg.2.1, fun q => hg.2.2.1 (brd_mono hu htu q), hg.2.2.2⟩
theorem run_skip : ∀ (k d t : Nat), k ≤ d → waits P A → (∀ u, t < u → u ≤ t + k → quiet F C P u A) → runF F C P d t A = runF F C P (d - k) (t + k) A := by
  intro k
  induction k with
  | zero => intro d t _ _ _; rfl
  | succ k ih =>
    intro d t hk hw h
    obtain ⟨d, rfl⟩ : ∃ d', d = d' + 1 := ⟨d - 1, by omega⟩
    rw [runF, m_if_t hw, sec_quiet (h (t + 1) (by omega) (by omega)), ih d (t + 1) (by omega) hw (fun u h1 h2 => h u (by omega) (by omega))]
    rw [show d + 1 - (k + 1) = d - k by omega, show t + 1 + k = t + (k + 1) by omega]
end
