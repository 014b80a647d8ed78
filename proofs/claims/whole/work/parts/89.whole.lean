/-! the whole law -/
section
variable {L s N : Nat} {xs : Nat → Int32} {f : Nat → mC} {Q : mE → mH → Prop}
theorem bh_rom (hN : N ≤ 194) : (bh L xs N f s).1 1000000002 = mI L xs := by
  show (bif Nat.blt 1000000002 N then f 1000000002 else _) = _
  rw [show Nat.blt 1000000002 N = false by rw [Bool.eq_false_iff]; intro z; rw [Nat.blt_eq] at z; omega]
  rfl
theorem Y_Lcell {k : Nat} (hN : N ≤ 194) (hL : L ≤ 2562) (hk : k < 2 ^ 31) : Yd y_Law_cell [.ref 1000000002, .int (nI k)] (bh L xs N f s) (.inl (some (.int (if k < L then xs k else 0)))) (bh L xs N f s) := by
  refine Yd_of (fun Q kk => ?_)
  unfold Y
  iterate 2 (refine X_n rfl rfl rfl ?_)
  refine X_len rfl (bh_rom hN) ?_
  by_cases q : k < L
  · rw [if_pos q] at kk
    refine X_bf rfl rfl rfl (show ¬ nI L ≤ nI k from nI_ge q (by omega)) ?_
    repeat (refine X_n rfl rfl rfl ?_)
    refine X_li rfl (bh_rom hN) rfl q (by omega) ?_
    repeat (refine X_n rfl rfl rfl ?_)
    exact X_r rfl rfl rfl rfl kk
  · rw [if_neg q] at kk
    refine X_bt rfl rfl rfl (show nI L ≤ nI k from nI_le (by omega) hk) ?_
    repeat (refine X_n rfl rfl rfl ?_)
    exact X_r rfl rfl rfl rfl kk
theorem IV_0 {F : Fx} {x y b : Nat → Int32} (hF : okF F) (hl : laid F.1 F.2.1 (F.1 * F.2.1) x y b) : IV F 0 (C00 F.1 F.2.1 x y b) := by
  have hn := hF.n
  have fl : ∀ c n, c < n → flt (fun _ => 0) (-1) n c = -1 := fun c n h => if_pos h
  have hg : okG F (C00 F.1 F.2.1 x y b) := fun c hc w hw => by
    exact ((hl c hc).2.2 w hw).trans (bsV_eq hF hc hw)
  refine ⟨⟨⟨hg.B hF, hg.sym hF, 0, by omega, rfl, fun x hx => by omega, fun c hc => Or.inl ⟨fl c _ hc, by show ¬ (0 : Int32) = 2; decide⟩⟩, hg, fun c hc => ⟨(hl c hc).1, (hl c hc).2.1⟩, fun r _ => Or.inl rfl, ⟨by omega, rfl, fun p hp => by omega, fun c hc => Or.inl (fl c _ hc)⟩, ⟨⟨fun c hc => ⟨?_, ?_⟩, fun m hm _ => ⟨rfl, fl m _ hm⟩, rfl⟩, rfl, fun p hp => by omega, fun c hc => ⟨?_, Or.inl (fl c _ hc), Or.inr ⟨?_, rfl⟩⟩⟩, ⟨fun c _ => Or.inl rfl, fun c hc hne => absurd (fl c _ hc) hne⟩⟩, Or.inl rfl, Or.inl rfl, rfl, fun e => absurd e (by show ¬ (0 : Int32) = 1; decide)⟩
  · show (0 : Int32) = if (0 : Int32) = 1 then 1 else 0
    rw [if_neg (by decide)]
  · show flt (fun _ => 0) (-1) 576 (cm F c) = flt (fun _ => 0) (-1) (F.1 * F.2.1) c
    rw [fl _ _ hc, fl _ _ (cm_in hF hc).2.2.2]
  · show flt (fun _ => 0) (-1) 576 (cm F c) = flt (fun _ => 0) (-1) (F.1 * F.2.1) c
    rw [fl _ _ hc, fl _ _ (cm_in hF hc).2.2.2]
  · show ¬ ((0 : Int32) = 2 ∨ (0 : Int32) = 3)
    decide
theorem law_all (hL : L ≤ 2562) : X y_Law_law 0 (m_entry y_Law_law [.ref 1000000002]) [] (bh L xs 0 (fun _ => mNo) 0) (fun o h' => o = .inl (some (.int 1)) ∧ h'.2.1 ≤ 601024 ∧ h'.2.2 ≤ 7293000) := by
  obtain ⟨w, hw1, hw2, hw3, hw4, hw5⟩ := side_of (if 0 < L then xs 0 else 0)
  obtain ⟨h, hh1, hh2, hh3, hh4, hh5⟩ := side_of (if 1 < L then xs 1 else 0)
  have hn : w * h ≤ 576 := Nat.mul_le_mul hw1.2 hh1.2
  have hF : okF (w, h, L, xs) := ⟨hw1, hh1, hL⟩
  refine X_n rfl rfl rfl ?_
  refine X_tr (b := 0) rfl ?_
  rw [bh_push (by omega)]
  refine X_h (bh_ext (g := fun _ => mO 5 (m_df 5)) ?_) ?_
  · repeat (refine all_s rfl ?_)
    exact all_0
  repeat (refine X_n rfl rfl rfl ?_)
  refine X_cd rfl rfl rfl rfl (Y_Lcell (k := 0) (by omega) hL (by omega)) ?_
  repeat (refine X_n rfl rfl rfl ?_)
  refine X_cd rfl rfl rfl rfl (Y_Lcell (k := 1) (by omega) hL (by omega)) ?_
  refine X_k rfl rfl rfl rfl (Y_EscI ⟨hw1, hw2⟩ ⟨hh1, hh2⟩ (fun x y b s' hl hs' => ?_))
  dsimp only
  iterate 1 (refine X_n rfl rfl rfl ?_)
  refine X_n rfl rfl rfl ?_
  refine X_tr (b := 169) rfl ?_
  rw [bh_push (by omega)]
  repeat (refine X_n rfl rfl rfl ?_)
  refine X_cd rfl rfl rfl rfl (Y_Lcell (k := 0) (by omega) hL (by omega)) ?_
  repeat (refine X_n rfl rfl rfl ?_)
  refine X_cd rfl rfl rfl rfl (Y_Lcell (k := 1) (by omega) hL (by omega)) ?_
  refine X_h (bh_ext (g := fun k => bif Nat.beq k 169 then mO 6 (m_df 6) else stg w h x y b (sh w h (C00 w h x y b) (fun _ => 0) 0) k) ?_) ?_
  · repeat (refine all_s rfl ?_)
    exact all_0
  refine X_k rfl rfl rfl rfl (Y_Model1 hn hw3 hw4 hw5 hh3 hh4 hh5 ?_)
  dsimp only
  repeat (refine X_n rfl rfl rfl ?_)
  refine X_top (w := nI 1) rfl ?_
  refine X_m rfl rfl rfl rfl rfl (m_if_t ⟨nI_pos (by omega), by rw [nI_clamp (by omega)]; omega⟩) ?_
  refine X_tr (b := 193) rfl ?_
  rw [nI_clamp (by omega), bh_push (by omega)]
  iterate 3 (refine X_n rfl rfl rfl ?_)
  have key : ∀ S f, (∀ k, k < 194 → f k = sh w h (C00 w h x y b) (fun _ => 0) k) → bh L xs 194 f S = hp (w, h, L, xs) (C00 w h x y b) (fun _ => 0) (fun _ => mNo, 0, S) := fun S f hf => by
    rw [bh_ext hf]
    rfl
  refine X_h (key _ _ ?_) ?_
  · repeat (refine all_s rfl ?_)
    exact all_0
  refine law_loop hF (fun C J G t hG => ⟨rfl, ?_, ?_⟩) 513 0 2 0 _ _ _ _ _ (show L < 2 + 5 + 5 * 513 by omega) (by omega) (by omega) (IV_0 hF hl) ⟨Nat.le_refl 0, ?_, by omega⟩
  · show s' + 31 + 576 + 576 + 576 + 576 + 8 + 60 + 60 + 60 + 60 + 5184 + 576 + 60 + 60 + 60 + 60 + 36000 + 36000 + 60 + 576 + 576 + 576 + 60 + 4096 + 1 ≤ 1000000 + 6 * 0
    omega
  · obtain ⟨h1, h2, h3⟩ := hG
    show 194 + G.2.1 ≤ 601024
    omega
  · obtain ⟨h1, h2, h3⟩ := hG
    show G.2.2 ≤ 7293000
    omega
end
