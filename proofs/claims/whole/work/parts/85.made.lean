/-! the things are made: the heap while they are -/
def bh (L : Nat) (xs : Nat → Int32) (N : Nat) (f : Nat → mC) (s : Nat) : mH := (fun k => bif Nat.blt k N then f k else bif Nat.blt k 1000000000 then mNo else m_romC L xs (k - 1000000000), N, s)
section
variable {L N s k n : Nat} {xs : Nat → Int32} {f g : Nat → mC} {c : mC}
theorem bh_ext (h : ∀ k, k < N → f k = g k) : bh L xs N f s = bh L xs N g s := by
  refine Prod.ext (funext fun k => ?_) rfl
  show (bif Nat.blt k N then f k else _) = (bif Nat.blt k N then g k else _)
  cases e : Nat.blt k N with
  | true => exact h k (by rw [Nat.blt_eq] at e; exact e)
  | false => rfl
theorem bh_push (hN : N < 1000000000) : m_push (bh L xs N f s) c n = bh L xs (N + 1) (fun k => bif Nat.beq k N then c else f k) (s + n) := by
  refine Prod.ext (funext fun k => ?_) rfl
  show (if k = N then c else (bif Nat.blt k N then f k else bif Nat.blt k 1000000000 then mNo else m_romC L xs (k - 1000000000))) = (bif Nat.blt k (N + 1) then (bif Nat.beq k N then c else f k) else bif Nat.blt k 1000000000 then mNo else m_romC L xs (k - 1000000000))
  by_cases e : k = N
  · subst e
    rw [if_pos rfl, show Nat.blt k (k + 1) = true by rw [Nat.blt_eq]; omega, show Nat.beq k k = true from Nat.beq_refl k]
    rfl
  · rw [if_neg e]
    have hb : Nat.beq k N = false := by
      rw [Bool.eq_false_iff]; intro q; exact e (Nat.eq_of_beq_eq_true q)
    rw [hb]
    by_cases q : k < N
    · rw [show Nat.blt k N = true by rw [Nat.blt_eq]; exact q, show Nat.blt k (N + 1) = true by rw [Nat.blt_eq]; omega]
      rfl
    · rw [show Nat.blt k N = false by rw [Bool.eq_false_iff]; intro z; rw [Nat.blt_eq] at z; exact q z, show Nat.blt k (N + 1) = false by rw [Bool.eq_false_iff]; intro z; rw [Nat.blt_eq] at z; omega]
      rfl
theorem bh_set (hk : k < N) : m_set (bh L xs N f s) k c = bh L xs N (fun j => bif Nat.beq j k then c else f j) s := by
  refine set_ext rfl ?_ (fun j hj => ?_)
  · show (bif Nat.blt k N then (bif Nat.beq k k then c else f k) else _) = c
    rw [show Nat.blt k N = true by rw [Nat.blt_eq]; exact hk, show Nat.beq k k = true from Nat.beq_refl k]
    rfl
  · show (bif Nat.blt j N then (bif Nat.beq j k then c else f j) else _) = (bif Nat.blt j N then f j else _)
    have hb : Nat.beq j k = false := by
      rw [Bool.eq_false_iff]; intro q; exact hj (Nat.eq_of_beq_eq_true q)
    rw [hb]
    rfl
theorem bh_pushG (hN : N + 1 + n < 1000000000) : m_pushG (bh L xs N f s) n k = bh L xs (N + 1 + n) (fun j => bif Nat.blt j N then f j else bif Nat.beq j N then mG n (fun i => N + 1 + i) else mI k (fun _ => 0)) (s + (n + n * k)) := by
  refine Prod.ext (funext fun j => ?_) rfl
  show (if j = N then mG n (fun i => N + 1 + i) else if N < j ∧ j < N + 1 + n then mI k (fun _ => 0) else (bif Nat.blt j N then f j else bif Nat.blt j 1000000000 then mNo else m_romC L xs (j - 1000000000))) = (bif Nat.blt j (N + 1 + n) then (bif Nat.blt j N then f j else bif Nat.beq j N then mG n (fun i => N + 1 + i) else mI k (fun _ => 0)) else bif Nat.blt j 1000000000 then mNo else m_romC L xs (j - 1000000000))
  have bt : ∀ {a b : Nat}, a < b → Nat.blt a b = true := fun h => by rw [Nat.blt_eq]; exact h
  have bf : ∀ {a b : Nat}, ¬ a < b → Nat.blt a b = false := fun h => by rw [Bool.eq_false_iff]; intro z; rw [Nat.blt_eq] at z; exact h z
  by_cases e : j = N
  · subst e
    rw [if_pos rfl, bt (show j < j + 1 + n by omega), bf (Nat.lt_irrefl j), show Nat.beq j j = true from Nat.beq_refl j]
    rfl
  · rw [if_neg e]
    have hb : Nat.beq j N = false := by
      rw [Bool.eq_false_iff]; intro q; exact e (Nat.eq_of_beq_eq_true q)
    rw [hb]
    by_cases q1 : j < N
    · rw [if_neg (by omega), bt q1, bt (show j < N + 1 + n by omega)]
      rfl
    · by_cases q2 : j < N + 1 + n
      · rw [if_pos (by omega), bf q1, bt q2]
        rfl
      · rw [if_neg (by omega), bf q1, bf q2]
        rfl
theorem bh_0 : ((fun k => if k < m_sB then mNo else m_romC L xs (k - m_sB), 0, 0) : mH) = bh L xs 0 (fun _ => mNo) 0 := by
  refine Prod.ext (funext fun k => ?_) rfl
  have e : m_sB = 1000000000 := rfl
  dsimp only [bh]
  rw [e, show Nat.blt k 0 = false by rw [Bool.eq_false_iff]; intro z; rw [Nat.blt_eq] at z; omega, cond_false]
  by_cases q : k < 1000000000
  · rw [if_pos q, show Nat.blt k 1000000000 = true by rw [Nat.blt_eq]; exact q, cond_true]
  · rw [if_neg q, show Nat.blt k 1000000000 = false by rw [Bool.eq_false_iff]; intro z; rw [Nat.blt_eq] at z; exact q z, cond_false]
end
/-- the storey while it is made: x, y, b the three arrays that are laid cell by cell -/
def s1 (w h : Nat) (x y b : Nat → Int32) (k : Nat) : mC := match k with
  | 0 => mO 5 (m_df 5)
  | 1 => mO 4 [.int (nI w), .int (nI h), .int (nI (w * h)), .ref 2, .ref 3, .ref 4, .ref 5, .ref 6, .ref 7, .ref 8, .ref 9, .int 0]
  | 2 => mI (w * h) (fun _ => 0)
  | 3 => mI (w * h) (fun _ => 0)
  | 4 => mI (w * h) (flt (fun _ => 0) (-1) (w * h))
  | 5 => mI (w * h) (flt (fun _ => 0) (-1) (w * h))
  | 6 => mI 8 (flt (fun _ => 0) (-1) 8)
  | 7 => mI (w * h) x
  | 8 => mI (w * h) y
  | _ => mI (4 * (w * h)) b
theorem X_tr {y pc a b : Nat} {L : mL} {S : List Value} {h : mH} {Q : mE → mH → Prop} (e : a = b) (k : X y pc L (.ref b :: S) h Q) : X y pc L (.ref a :: S) h Q := e ▸ k
section
variable {L s w h : Nat} {xs : Nat → Int32} {Q : mE → mH → Prop}
theorem Y_Storey1 (hw : 2 ≤ w ∧ w ≤ 24) (hh : 2 ≤ h ∧ h ≤ 24)
    (kk : X y_Storey_init 130 [some (.ref 1), some (.int (nI w)), some (.int (nI h)), none, none] [] (bh L xs 10 (s1 w h (fun _ => 0) (fun _ => 0) (fun _ => 0)) (s + w * h + w * h + w * h + w * h + 8 + w * h + w * h + w * h * 4)) Q) :
    Y y_Storey_init [.ref 1, .int (nI w), .int (nI h)] (bh L xs 2 (fun k => match k with | 0 => mO 5 (m_df 5) | _ => mO 4 (m_df 4)) s) Q := by
  have hn : w * h ≤ 576 := Nat.mul_le_mul hw.2 hh.2
  unfold Y
  repeat (refine X_n rfl rfl rfl ?_)
  refine X_s rfl rfl ?_
  rw [bh_set (by omega)]
  repeat (refine X_n rfl rfl rfl ?_)
  refine X_s rfl rfl ?_
  rw [bh_set (by omega)]
  repeat (refine X_n rfl rfl rfl ?_)
  rw [pk_mul]
  refine X_s rfl rfl ?_
  rw [bh_set (by omega)]
  repeat (refine X_n rfl rfl rfl ?_)
  refine X_m rfl rfl rfl rfl rfl (m_if_t ⟨nI_pos (by omega), by rw [nI_clamp (by omega)]; omega⟩) ?_
  refine X_tr (b := 2) rfl ?_
  rw [nI_clamp (by omega), bh_push (by omega)]
  repeat (refine X_n rfl rfl rfl ?_)
  refine X_s rfl rfl ?_
  rw [bh_set (by omega)]
  repeat (refine X_n rfl rfl rfl ?_)
  refine X_m rfl rfl rfl rfl rfl (m_if_t ⟨nI_pos (by omega), by rw [nI_clamp (by omega)]; omega⟩) ?_
  refine X_tr (b := 3) rfl ?_
  rw [nI_clamp (by omega), bh_push (by omega)]
  repeat (refine X_n rfl rfl rfl ?_)
  refine X_s rfl rfl ?_
  rw [bh_set (by omega)]
  repeat (refine X_n rfl rfl rfl ?_)
  refine X_m rfl rfl rfl rfl rfl (m_if_t ⟨nI_pos (by omega), by rw [nI_clamp (by omega)]; omega⟩) ?_
  refine X_tr (b := 4) rfl ?_
  rw [nI_clamp (by omega), bh_push (by omega)]
  repeat (refine X_n rfl rfl rfl ?_)
  refine X_s rfl rfl ?_
  rw [bh_set (by omega)]
  repeat (refine X_n rfl rfl rfl ?_)
  refine X_m rfl rfl rfl rfl rfl (m_if_t ⟨nI_pos (by omega), by rw [nI_clamp (by omega)]; omega⟩) ?_
  refine X_tr (b := 5) rfl ?_
  rw [nI_clamp (by omega), bh_push (by omega)]
  repeat (refine X_n rfl rfl rfl ?_)
  refine X_s rfl rfl ?_
  rw [bh_set (by omega)]
  repeat (refine X_n rfl rfl rfl ?_)
  refine X_top (w := nI 8) (by decide) ?_
  refine X_m rfl rfl rfl rfl rfl (m_if_t ⟨nI_pos (by omega), by rw [nI_clamp (by omega)]; omega⟩) ?_
  refine X_tr (b := 6) rfl ?_
  rw [nI_clamp (by omega), bh_push (by omega)]
  repeat (refine X_n rfl rfl rfl ?_)
  refine X_s rfl rfl ?_
  rw [bh_set (by omega)]
  repeat (refine X_n rfl rfl rfl ?_)
  refine X_m rfl rfl rfl rfl rfl (m_if_t ⟨nI_pos (by omega), by rw [nI_clamp (by omega)]; omega⟩) ?_
  refine X_tr (b := 7) rfl ?_
  rw [nI_clamp (by omega), bh_push (by omega)]
  repeat (refine X_n rfl rfl rfl ?_)
  refine X_s rfl rfl ?_
  rw [bh_set (by omega)]
  repeat (refine X_n rfl rfl rfl ?_)
  refine X_m rfl rfl rfl rfl rfl (m_if_t ⟨nI_pos (by omega), by rw [nI_clamp (by omega)]; omega⟩) ?_
  refine X_tr (b := 8) rfl ?_
  rw [nI_clamp (by omega), bh_push (by omega)]
  repeat (refine X_n rfl rfl rfl ?_)
  refine X_s rfl rfl ?_
  rw [bh_set (by omega)]
  repeat (refine X_n rfl rfl rfl ?_)
  refine X_top (w := nI (w * h * 4)) (pk_mul _ 4) ?_
  refine X_m rfl rfl rfl rfl rfl (m_if_t ⟨nI_pos (by omega), by rw [nI_clamp (by omega)]; omega⟩) ?_
  refine X_tr (b := 9) rfl ?_
  rw [nI_clamp (by omega), bh_push (by omega)]
  repeat (refine X_n rfl rfl rfl ?_)
  refine X_s rfl rfl ?_
  rw [bh_set (by omega)]
  repeat (refine X_n rfl rfl rfl ?_)
  refine X_s rfl rfl ?_
  rw [bh_set (by omega)]
  repeat (refine X_n rfl rfl rfl ?_)
  refine X_cd rfl rfl rfl rfl (Y_fill (n := w * h) (f := fun _ => 0) rfl (by omega) (by omega)) ?_
  rw [bh_set (by omega)]
  repeat (refine X_n rfl rfl rfl ?_)
  refine X_cd rfl rfl rfl rfl (Y_fill (n := w * h) (f := fun _ => 0) rfl (by omega) (by omega)) ?_
  rw [bh_set (by omega)]
  repeat (refine X_n rfl rfl rfl ?_)
  refine X_cd rfl rfl rfl rfl (Y_fill (n := 8) (f := fun _ => 0) rfl (by omega) (by omega)) ?_
  rw [bh_set (by omega)]
  rw [bh_ext (g := s1 w h (fun _ => 0) (fun _ => 0) (fun _ => 0))]
  · exact kk
  · intro k hk
    have : k = 0 ∨ k = 1 ∨ k = 2 ∨ k = 3 ∨ k = 4 ∨ k = 5 ∨ k = 6 ∨ k = 7 ∨ k = 8 ∨ k = 9 := by omega
    rcases this with e | e | e | e | e | e | e | e | e | e <;> subst e
    · rfl
    · rfl
    · rfl
    · rfl
    · rfl
    · rfl
    · rfl
    · rfl
    · rfl
    · show mI (w * h * 4) _ = mI (4 * (w * h)) _
      rw [Nat.mul_comm]
end
