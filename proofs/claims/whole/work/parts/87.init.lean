/-! the class's objects are made -/
theorem all_s {P : Nat → Prop} {n : Nat} (h : P n) (ih : ∀ k, k < n → P k) : ∀ k, k < n + 1 → P k := fun k hk => by
  by_cases e : k = n
  · subst e; exact h
  · exact ih k (by omega)
theorem all_0 {P : Nat → Prop} : ∀ k, k < 0 → P k := fun k hk => by omega
theorem X_top2 {y pc : Nat} {L : mL} {u : Value} {S : List Value} {h : mH} {Q : mE → mH → Prop} {v w : Int32} (e : v = w) (k : X y pc L (u :: .int w :: S) h Q) : X y pc L (u :: .int v :: S) h Q := e ▸ k
/-- the contents at the beginning -/
def C00 (w h : Nat) (x y b : Nat → Int32) : Ct := fun k => match k with
  | 4 => flt (fun _ => 0) (-1) (w * h)
  | 5 => flt (fun _ => 0) (-1) (w * h)
  | 6 => flt (fun _ => 0) (-1) 8
  | 7 => x
  | 8 => y
  | 9 => b
  | 28 => flt (fun _ => 0) (-1) (w * h)
  | 171 => flt (fun _ => 0) (-1) 576
  | 173 => flt (fun _ => 0) (-1) 576
  | _ => fun _ => 0
/-- all cells but the first, which is e -/
def stg (w h : Nat) (x y b : Nat → Int32) (e : mC) (k : Nat) : mC := bif Nat.beq k 0 then e else sh w h (C00 w h x y b) (fun _ => 0) k
section
variable {L s w h : Nat} {xs x y b : Nat → Int32} {e : mC} {Q : mE → mH → Prop}
theorem Y_Numbers (hn : w * h ≤ 576) (kk : Q (.inl none) (bh L xs 23 (stg w h x y b e) (s + (9 + 9 * (w * h)) + 9 + w * h))) : Y y_Numbers_init [.ref 10, .ref 1] (bh L xs 11 (fun k => bif Nat.beq k 10 then mO 1 (m_df 1) else stg w h x y b e k) s) Q := by
  unfold Y
  repeat (refine X_n rfl rfl rfl ?_)
  refine X_s rfl rfl ?_
  rw [bh_set (by omega)]
  repeat (refine X_n rfl rfl rfl ?_)
  refine X_top2 (w := nI 9) (by decide) ?_
  refine X_m rfl rfl rfl rfl rfl (m_if_t ⟨⟨nI_pos (by omega), by rw [nI_clamp (by omega)]; omega⟩, nI_pos (by omega), by rw [nI_clamp (by omega)]; omega⟩) ?_
  refine X_tr (b := 11) rfl ?_
  rw [nI_clamp (by omega), nI_clamp (by omega), bh_pushG (by omega)]
  repeat (refine X_n rfl rfl rfl ?_)
  refine X_s rfl rfl ?_
  rw [bh_set (by omega)]
  repeat (refine X_n rfl rfl rfl ?_)
  refine X_top (w := nI 9) (by decide) ?_
  refine X_m rfl rfl rfl rfl rfl (m_if_t ⟨nI_pos (by omega), by rw [nI_clamp (by omega)]; omega⟩) ?_
  refine X_tr (b := 21) rfl ?_
  rw [nI_clamp (by omega), bh_push (by omega)]
  repeat (refine X_n rfl rfl rfl ?_)
  refine X_s rfl rfl ?_
  rw [bh_set (by omega)]
  repeat (refine X_n rfl rfl rfl ?_)
  refine X_m rfl rfl rfl rfl rfl (m_if_t ⟨nI_pos (by omega), by rw [nI_clamp (by omega)]; omega⟩) ?_
  refine X_tr (b := 22) rfl ?_
  rw [nI_clamp (by omega), bh_push (by omega)]
  repeat (refine X_n rfl rfl rfl ?_)
  refine X_s rfl rfl ?_
  rw [bh_set (by omega)]
  rw [bh_ext (g := stg w h x y b e)]
  · exact X_r rfl rfl rfl rfl kk
  · repeat (refine all_s rfl ?_)
    exact all_0
theorem Y_People (hn : w * h ≤ 576) (kk : Q (.inl none) (bh L xs 29 (stg w h x y b e) (s + 60 + 60 + 60 + 60 + w * h))) : Y y_People_init [.ref 23, .int (nI (w * h))] (bh L xs 24 (fun k => bif Nat.beq k 23 then mO 2 (m_df 2) else stg w h x y b e k) s) Q := by
  unfold Y
  repeat (refine X_n rfl rfl rfl ?_)
  refine X_top (w := nI 60) (by decide) ?_
  refine X_m rfl rfl rfl rfl rfl (m_if_t ⟨nI_pos (by omega), by rw [nI_clamp (by omega)]; omega⟩) ?_
  refine X_tr (b := 24) rfl ?_
  rw [nI_clamp (by omega), bh_push (by omega)]
  repeat (refine X_n rfl rfl rfl ?_)
  refine X_s rfl rfl ?_
  rw [bh_set (by omega)]
  repeat (refine X_n rfl rfl rfl ?_)
  refine X_top (w := nI 60) (by decide) ?_
  refine X_m rfl rfl rfl rfl rfl (m_if_t ⟨nI_pos (by omega), by rw [nI_clamp (by omega)]; omega⟩) ?_
  refine X_tr (b := 25) rfl ?_
  rw [nI_clamp (by omega), bh_push (by omega)]
  repeat (refine X_n rfl rfl rfl ?_)
  refine X_s rfl rfl ?_
  rw [bh_set (by omega)]
  repeat (refine X_n rfl rfl rfl ?_)
  refine X_top (w := nI 60) (by decide) ?_
  refine X_m rfl rfl rfl rfl rfl (m_if_t ⟨nI_pos (by omega), by rw [nI_clamp (by omega)]; omega⟩) ?_
  refine X_tr (b := 26) rfl ?_
  rw [nI_clamp (by omega), bh_push (by omega)]
  repeat (refine X_n rfl rfl rfl ?_)
  refine X_s rfl rfl ?_
  rw [bh_set (by omega)]
  repeat (refine X_n rfl rfl rfl ?_)
  refine X_top (w := nI 60) (by decide) ?_
  refine X_m rfl rfl rfl rfl rfl (m_if_t ⟨nI_pos (by omega), by rw [nI_clamp (by omega)]; omega⟩) ?_
  refine X_tr (b := 27) rfl ?_
  rw [nI_clamp (by omega), bh_push (by omega)]
  repeat (refine X_n rfl rfl rfl ?_)
  refine X_s rfl rfl ?_
  rw [bh_set (by omega)]
  repeat (refine X_n rfl rfl rfl ?_)
  refine X_m rfl rfl rfl rfl rfl (m_if_t ⟨nI_pos (by omega), by rw [nI_clamp (by omega)]; omega⟩) ?_
  refine X_tr (b := 28) rfl ?_
  rw [nI_clamp (by omega), bh_push (by omega)]
  repeat (refine X_n rfl rfl rfl ?_)
  refine X_s rfl rfl ?_
  rw [bh_set (by omega)]
  repeat (refine X_n rfl rfl rfl ?_)
  refine X_s rfl rfl ?_
  rw [bh_set (by omega)]
  repeat (refine X_n rfl rfl rfl ?_)
  refine X_cd rfl rfl rfl rfl (Y_fill (n := w * h) (f := fun _ => 0) rfl (by omega) (by omega)) ?_
  rw [bh_set (by omega)]
  rw [bh_ext (g := stg w h x y b e)]
  · exact X_r rfl rfl rfl rfl kk
  · repeat (refine all_s rfl ?_)
    exact all_0
theorem Y_Signposts (hn : w * h ≤ 576) (kk : Q (.inl none) (bh L xs 169 (stg w h x y b e) (s + 12 + w * h + 156 + 4096))) : Y y_Signposts_init [.ref 164, .ref 1] (bh L xs 165 (fun k => bif Nat.beq k 164 then mO 3 (m_df 3) else stg w h x y b e k) s) Q := by
  unfold Y
  repeat (refine X_n rfl rfl rfl ?_)
  refine X_s rfl rfl ?_
  rw [bh_set (by omega)]
  repeat (refine X_n rfl rfl rfl ?_)
  refine X_top (w := nI 12) (by decide) ?_
  refine X_m rfl rfl rfl rfl rfl (m_if_t ⟨nI_pos (by omega), by rw [nI_clamp (by omega)]; omega⟩) ?_
  refine X_tr (b := 165) rfl ?_
  rw [nI_clamp (by omega), bh_push (by omega)]
  repeat (refine X_n rfl rfl rfl ?_)
  refine X_s rfl rfl ?_
  rw [bh_set (by omega)]
  repeat (refine X_n rfl rfl rfl ?_)
  refine X_m rfl rfl rfl rfl rfl (m_if_t ⟨nI_pos (by omega), by rw [nI_clamp (by omega)]; omega⟩) ?_
  refine X_tr (b := 166) rfl ?_
  rw [nI_clamp (by omega), bh_push (by omega)]
  repeat (refine X_n rfl rfl rfl ?_)
  refine X_s rfl rfl ?_
  rw [bh_set (by omega)]
  repeat (refine X_n rfl rfl rfl ?_)
  refine X_top (w := nI 156) (by decide) ?_
  refine X_m rfl rfl rfl rfl rfl (m_if_t ⟨nI_pos (by omega), by rw [nI_clamp (by omega)]; omega⟩) ?_
  refine X_tr (b := 167) rfl ?_
  rw [nI_clamp (by omega), bh_push (by omega)]
  repeat (refine X_n rfl rfl rfl ?_)
  refine X_s rfl rfl ?_
  rw [bh_set (by omega)]
  repeat (refine X_n rfl rfl rfl ?_)
  refine X_top (w := nI 4096) (by decide) ?_
  refine X_m rfl rfl rfl rfl rfl (m_if_t ⟨nI_pos (by omega), by rw [nI_clamp (by omega)]; omega⟩) ?_
  refine X_tr (b := 168) rfl ?_
  rw [nI_clamp (by omega), bh_push (by omega)]
  repeat (refine X_n rfl rfl rfl ?_)
  refine X_s rfl rfl ?_
  rw [bh_set (by omega)]
  rw [bh_ext (g := stg w h x y b e)]
  · exact X_r rfl rfl rfl rfl kk
  · repeat (refine all_s rfl ?_)
    exact all_0
theorem Y_Flight (hn : w * h ≤ 576) (kk : Q (.inl none) (bh L xs 164 (stg w h x y b e) (s + 60 + 60 + 60 + 60 + w * h + 60 + 60 + 60 + (60 + 60 * (w * h)) + (60 + 60 * (w * h)) + w * h + w * h + w * h + 60))) : Y y_Flight_init [.ref 29, .ref 1, .ref 10, .ref 23] (bh L xs 30 (fun k => bif Nat.beq k 29 then mO 0 (m_df 0) else stg w h x y b e k) s) Q := by
  unfold Y
  repeat (refine X_n rfl rfl rfl ?_)
  refine X_s rfl rfl ?_
  rw [bh_set (by omega)]
  repeat (refine X_n rfl rfl rfl ?_)
  refine X_s rfl rfl ?_
  rw [bh_set (by omega)]
  repeat (refine X_n rfl rfl rfl ?_)
  refine X_s rfl rfl ?_
  rw [bh_set (by omega)]
  repeat (refine X_n rfl rfl rfl ?_)
  refine X_top (w := nI 60) (by decide) ?_
  refine X_m rfl rfl rfl rfl rfl (m_if_t ⟨nI_pos (by omega), by rw [nI_clamp (by omega)]; omega⟩) ?_
  refine X_tr (b := 30) rfl ?_
  rw [nI_clamp (by omega), bh_push (by omega)]
  repeat (refine X_n rfl rfl rfl ?_)
  refine X_s rfl rfl ?_
  rw [bh_set (by omega)]
  repeat (refine X_n rfl rfl rfl ?_)
  refine X_top (w := nI 60) (by decide) ?_
  refine X_m rfl rfl rfl rfl rfl (m_if_t ⟨nI_pos (by omega), by rw [nI_clamp (by omega)]; omega⟩) ?_
  refine X_tr (b := 31) rfl ?_
  rw [nI_clamp (by omega), bh_push (by omega)]
  repeat (refine X_n rfl rfl rfl ?_)
  refine X_s rfl rfl ?_
  rw [bh_set (by omega)]
  repeat (refine X_n rfl rfl rfl ?_)
  refine X_top (w := nI 60) (by decide) ?_
  refine X_m rfl rfl rfl rfl rfl (m_if_t ⟨nI_pos (by omega), by rw [nI_clamp (by omega)]; omega⟩) ?_
  refine X_tr (b := 32) rfl ?_
  rw [nI_clamp (by omega), bh_push (by omega)]
  repeat (refine X_n rfl rfl rfl ?_)
  refine X_s rfl rfl ?_
  rw [bh_set (by omega)]
  repeat (refine X_n rfl rfl rfl ?_)
  refine X_top (w := nI 60) (by decide) ?_
  refine X_m rfl rfl rfl rfl rfl (m_if_t ⟨nI_pos (by omega), by rw [nI_clamp (by omega)]; omega⟩) ?_
  refine X_tr (b := 33) rfl ?_
  rw [nI_clamp (by omega), bh_push (by omega)]
  repeat (refine X_n rfl rfl rfl ?_)
  refine X_s rfl rfl ?_
  rw [bh_set (by omega)]
  repeat (refine X_n rfl rfl rfl ?_)
  refine X_m rfl rfl rfl rfl rfl (m_if_t ⟨nI_pos (by omega), by rw [nI_clamp (by omega)]; omega⟩) ?_
  refine X_tr (b := 34) rfl ?_
  rw [nI_clamp (by omega), bh_push (by omega)]
  repeat (refine X_n rfl rfl rfl ?_)
  refine X_s rfl rfl ?_
  rw [bh_set (by omega)]
  repeat (refine X_n rfl rfl rfl ?_)
  refine X_top (w := nI 60) (by decide) ?_
  refine X_m rfl rfl rfl rfl rfl (m_if_t ⟨nI_pos (by omega), by rw [nI_clamp (by omega)]; omega⟩) ?_
  refine X_tr (b := 35) rfl ?_
  rw [nI_clamp (by omega), bh_push (by omega)]
  repeat (refine X_n rfl rfl rfl ?_)
  refine X_s rfl rfl ?_
  rw [bh_set (by omega)]
  repeat (refine X_n rfl rfl rfl ?_)
  refine X_top (w := nI 60) (by decide) ?_
  refine X_m rfl rfl rfl rfl rfl (m_if_t ⟨nI_pos (by omega), by rw [nI_clamp (by omega)]; omega⟩) ?_
  refine X_tr (b := 36) rfl ?_
  rw [nI_clamp (by omega), bh_push (by omega)]
  repeat (refine X_n rfl rfl rfl ?_)
  refine X_s rfl rfl ?_
  rw [bh_set (by omega)]
  repeat (refine X_n rfl rfl rfl ?_)
  refine X_top (w := nI 60) (by decide) ?_
  refine X_m rfl rfl rfl rfl rfl (m_if_t ⟨nI_pos (by omega), by rw [nI_clamp (by omega)]; omega⟩) ?_
  refine X_tr (b := 37) rfl ?_
  rw [nI_clamp (by omega), bh_push (by omega)]
  repeat (refine X_n rfl rfl rfl ?_)
  refine X_s rfl rfl ?_
  rw [bh_set (by omega)]
  repeat (refine X_n rfl rfl rfl ?_)
  refine X_top2 (w := nI 60) (by decide) ?_
  refine X_m rfl rfl rfl rfl rfl (m_if_t ⟨⟨nI_pos (by omega), by rw [nI_clamp (by omega)]; omega⟩, nI_pos (by omega), by rw [nI_clamp (by omega)]; omega⟩) ?_
  refine X_tr (b := 38) rfl ?_
  rw [nI_clamp (by omega), nI_clamp (by omega), bh_pushG (by omega)]
  repeat (refine X_n rfl rfl rfl ?_)
  refine X_s rfl rfl ?_
  rw [bh_set (by omega)]
  repeat (refine X_n rfl rfl rfl ?_)
  refine X_top2 (w := nI 60) (by decide) ?_
  refine X_m rfl rfl rfl rfl rfl (m_if_t ⟨⟨nI_pos (by omega), by rw [nI_clamp (by omega)]; omega⟩, nI_pos (by omega), by rw [nI_clamp (by omega)]; omega⟩) ?_
  refine X_tr (b := 99) rfl ?_
  rw [nI_clamp (by omega), nI_clamp (by omega), bh_pushG (by omega)]
  repeat (refine X_n rfl rfl rfl ?_)
  refine X_s rfl rfl ?_
  rw [bh_set (by omega)]
  repeat (refine X_n rfl rfl rfl ?_)
  refine X_m rfl rfl rfl rfl rfl (m_if_t ⟨nI_pos (by omega), by rw [nI_clamp (by omega)]; omega⟩) ?_
  refine X_tr (b := 160) rfl ?_
  rw [nI_clamp (by omega), bh_push (by omega)]
  repeat (refine X_n rfl rfl rfl ?_)
  refine X_s rfl rfl ?_
  rw [bh_set (by omega)]
  repeat (refine X_n rfl rfl rfl ?_)
  refine X_m rfl rfl rfl rfl rfl (m_if_t ⟨nI_pos (by omega), by rw [nI_clamp (by omega)]; omega⟩) ?_
  refine X_tr (b := 161) rfl ?_
  rw [nI_clamp (by omega), bh_push (by omega)]
  repeat (refine X_n rfl rfl rfl ?_)
  refine X_s rfl rfl ?_
  rw [bh_set (by omega)]
  repeat (refine X_n rfl rfl rfl ?_)
  refine X_m rfl rfl rfl rfl rfl (m_if_t ⟨nI_pos (by omega), by rw [nI_clamp (by omega)]; omega⟩) ?_
  refine X_tr (b := 162) rfl ?_
  rw [nI_clamp (by omega), bh_push (by omega)]
  repeat (refine X_n rfl rfl rfl ?_)
  refine X_s rfl rfl ?_
  rw [bh_set (by omega)]
  repeat (refine X_n rfl rfl rfl ?_)
  refine X_top (w := nI 60) (by decide) ?_
  refine X_m rfl rfl rfl rfl rfl (m_if_t ⟨nI_pos (by omega), by rw [nI_clamp (by omega)]; omega⟩) ?_
  refine X_tr (b := 163) rfl ?_
  rw [nI_clamp (by omega), bh_push (by omega)]
  repeat (refine X_n rfl rfl rfl ?_)
  refine X_s rfl rfl ?_
  rw [bh_set (by omega)]
  repeat (refine X_n rfl rfl rfl ?_)
  refine X_s rfl rfl ?_
  rw [bh_set (by omega)]
  repeat (refine X_n rfl rfl rfl ?_)
  refine X_s rfl rfl ?_
  rw [bh_set (by omega)]
  rw [bh_ext (g := stg w h x y b e)]
  · exact X_r rfl rfl rfl rfl kk
  · repeat (refine all_s rfl ?_)
    exact all_0
end
