/-! rowTo, findAll, forget -/
section
variable {F : Fx} {C : Ct} {J : Nat → Int64} {G : Ex} {e : Nat}
theorem X_lz {y pc tgt a n k : Nat} {f : Nat → Int32} {j : Int32} {L : mL} {S : List Value} {h : mH} {Q : mE → mH → Prop} (h1 : m_at y pc = some (.baload, 1, tgt)) (hh : h.1 a = mZ n f) (hj : j = nI k) (hk : k < n) (hn : n < 2 ^ 31) (kk : X y (pc + 1) L (.int (f k) :: S) h Q) : X y pc L (.int j :: .ref a :: S) h Q :=
  X_ln (f := fun k => .int (f k)) h1 rfl rfl (by simp only [m_al, hh]) hj hk hn kk
/-- the rows that are known hold their numbers -/
def okN (F : Fx) (C : Ct) : Prop := ∀ r, r < 9 → C 21 r = 0 ∨ (C 21 r = 1 ∧ rowOk F C (nI r - 1) (C (12 + r)))
/-- only the rows, the queue and the flags differ, and the rows that are known stay so -/
def sameN (C C' : Ct) : Prop := ∀ k, k ≠ 21 → k ≠ 22 → (k < 12 ∨ 20 < k) → C' k = C k
theorem opB_same {C C' : Ct} (h : sameN C C') (c w : Nat) : opB C' c w = opB C c w := by
  unfold opB; rw [h 9 (by omega) (by omega) (by omega), h 2 (by omega) (by omega) (by omega)]
theorem rowOk_same {C C' : Ct} (h : sameN C C') {g : Int32} {row : Nat → Int32} (hr : rowOk F C g row) : rowOk F C' g row := by
  have e1 : nbC C' = nbC C := by funext c w; unfold nbC; rw [opB_same h]
  have e2 : glC C' g = glC C g := by funext c; unfold glC; rw [h 1 (by omega) (by omega) (by omega), h 6 (by omega) (by omega) (by omega)]
  have e3 : opC C' = opC C := by funext c; unfold opC; rw [h 2 (by omega) (by omega) (by omega)]
  unfold rowOk
  rw [e1, e2, e3]
  exact hr
theorem okS_same {C C' : Ct} (h : sameN C C') (hs : okS F C) : okS F C' := by
  unfold okS okB
  rw [h 9 (by omega) (by omega) (by omega), h 1 (by omega) (by omega) (by omega), h 6 (by omega) (by omega) (by omega), h 5 (by omega) (by omega) (by omega), h 2 (by omega) (by omega) (by omega)]
  exact hs
theorem sameN_rf (C : Ct) : sameN C C := fun _ _ _ _ => rfl
theorem sameN_tr {A B C : Ct} (h1 : sameN A B) (h2 : sameN B C) : sameN A C := fun k a b c => (h2 k a b c).trans (h1 k a b c)
/-- rowTo: the row's cell; the row holds its numbers behind it -/
theorem Y_rowTo {x : Int32} (hF : okF F) (hS : okS F C) (hN : okN F C) (he : e < 9) (hx : x + 1 = nI e) (hx2 : x = nI e - 1) :
    Y y_Numbers_rowTo [.ref 10, .int x] (hp F C J G) (fun o h' => ∃ C', o = .inl (some (.ref (12 + e))) ∧ h' = hp F C' J G ∧ sameN C C' ∧ okN F C' ∧ rowOk F C' x (C' (12 + e))) := by
  have hn := hF.n
  unfold Y
  iterate 4 (refine X_s rfl rfl ?_)
  rw [show x + Int32.ofInt 1 = nI e from hx]
  iterate 3 (refine X_s rfl rfl ?_)
  refine X_lz (n := 9) (f := C 21) rfl rfl rfl he (by omega) ?_
  rcases hN e he with e0 | ⟨e1, hr⟩
  · rw [e0]
    refine X_bf rfl rfl rfl (fun h => h rfl) ?_
    iterate 5 (refine X_s rfl rfl ?_)
    refine X_ln rfl rfl rfl rfl rfl he (show 9 < 2 ^ 31 by omega) ?_
    refine X_c rfl rfl rfl rfl (Y_find (g := x) hF hS he) ?_ ?_
    · rintro v h' ⟨row, qf, ev, rfl, hrow⟩
      cases ev
      iterate 4 (refine X_s rfl rfl ?_)
      refine X_tn (n := 9) (c := fun k => mZ 9 (upd (hB C e row qf 21) k 1)) rfl rfl rfl rfl rfl rfl he (show 9 < 2 ^ 31 by omega) ?_
      refine X_h (hp_stz (k := 21) rfl rfl) ?_
      iterate 3 (refine X_s rfl rfl ?_)
      refine X_ln rfl rfl rfl rfl rfl he (show 9 < 2 ^ 31 by omega) ?_
      have hsm : sameN C (st (hB C e row qf) 21 e 1) := fun k k1 k2 k3 => by rw [st_f k1, hB_o (by omega) k2]
      have hrow' : st (hB C e row qf) 21 e 1 (12 + e) = row := by rw [st_f (by omega), hB_row he]
      refine X_r rfl rfl rfl rfl ⟨_, rfl, rfl, hsm, fun r hr9 => ?_, ?_⟩
      · by_cases er : r = e
        · subst er
          right
          refine ⟨by rw [st_s], ?_⟩
          rw [hrow', ← hx2]
          exact rowOk_same hsm hrow
        · have e21 : st (hB C e row qf) 21 e 1 21 r = C 21 r := by rw [st_i er, hB_o (by omega) (by omega)]
          have e12 : st (hB C e row qf) 21 e 1 (12 + r) = C (12 + r) := by rw [st_f (by omega), hB_o (by omega) (by omega)]
          rw [e21, e12]
          rcases hN r hr9 with q | ⟨q1, q2⟩
          · exact Or.inl q
          · exact Or.inr ⟨q1, rowOk_same hsm q2⟩
      · rw [hrow']; exact rowOk_same hsm hrow
    · rintro v h' ⟨row, qf, ev, -⟩
      cases ev
  · rw [e1]
    refine X_bt rfl rfl rfl (show ¬ (1 : Int32) = 0 by decide) ?_
    iterate 3 (refine X_s rfl rfl ?_)
    refine X_ln rfl rfl rfl rfl rfl he (show 9 < 2 ^ 31 by omega) ?_
    exact X_r rfl rfl rfl rfl ⟨C, rfl, rfl, sameN_rf C, hN, by rw [hx2]; exact hr⟩
end
