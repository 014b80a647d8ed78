/-! the law's cases: wall -/
/-- the class's contents behind wall -/
def wlC (C : Ct) (c : Nat) (b : Bool) : Ct := st (if b then (if C 2 c = 1 then mkWall C c else fgt (mkWall C c)) else (if C 2 c = 1 then fgt (st C 2 c 0) else C)) 0 5 0
section
variable {F : Fx} {C : Ct} {J : Nat → Int64} {G : Ex} {Q : mE → mH → Prop} {t P i c : Nat} {x5 x6 : Option Value}
theorem upd_same {f : Nat → Int32} {k : Nat} {v : Int32} (h : f k = v) : upd f k v = f := by rw [← h]; exact upd_self
theorem mkWall_o {k : Nat} (h1 : k ≠ 2) (h2 : k ≠ 5) (h3 : k ≠ 6) : mkWall C c k = C k := by
  unfold mkWall
  split
  · rw [st_f h1]
  · rw [st_f h1, st_f h2, st_f h3]
theorem wlC_o {k : Nat} {b : Bool} (h : 21 < k) : wlC C c b k = C k := by
  unfold wlC fgt
  rw [st_f (by omega)]
  split
  · split
    · rw [mkWall_o (by omega) (by omega) (by omega)]
    · rw [stA_f (by omega), mkWall_o (by omega) (by omega) (by omega)]
  · split
    · rw [stA_f (by omega), st_f (by omega)]
    · rfl
theorem IV_wall {b : Bool} (hF : okF F) (hSS : SS F P C) (hc : c < F.1 * F.2.1) (h28 : C 28 c = -1) : IV F P (mwl (wlC C c b) (cm F c) b) := by
  have hn := hF.n
  obtain ⟨w1, w2, w3, w4, w5⟩ := w170 hSS hc
  obtain ⟨-, -, -, -, -, ⟨-, -, -, m4⟩, -⟩ := id hSS
  have n14 : mwl (wlC C c b) (cm F c) b 169 14 = 0 := by simp [mwl, mch, st_r]
  have n17 : mwl (wlC C c b) (cm F c) b 169 17 = 0 := by simp [mwl, mch, st_r]
  have n05 : mwl (wlC C c b) (cm F c) b 0 5 = 0 := by simp [mwl, mch, st_r, wlC]
  have n7 : mwl (wlC C c b) (cm F c) b 169 7 = C 169 7 := by
    have : mwl (wlC C c b) (cm F c) b 169 7 = wlC C c b 169 7 := by simp [mwl, mch, st_r]
    rw [this, wlC_o (by omega)]
  have n9 : mwl (wlC C c b) (cm F c) b 169 9 = C 169 9 := by
    have : mwl (wlC C c b) (cm F c) b 169 9 = wlC C c b 169 9 := by simp [mwl, mch, st_r]
    rw [this, wlC_o (by omega)]
  have mo : ∀ k, k ≠ 169 → k ≠ 170 → k ≠ 171 → k ≠ 172 → mwl (wlC C c b) (cm F c) b k = wlC C c b k := fun k a1 a2 a3 a4 => by unfold mwl mch; rw [st_f a1, st_f a1, st_f a4, st_f a3, st_f a2, st_f a1]
  have e170 : mwl (wlC C c b) (cm F c) b 170 = upd (C 170) (cm F c) (bI b) := by
    have : mwl (wlC C c b) (cm F c) b 170 = upd (wlC C c b 170) (cm F c) (bI b) := by unfold mwl mch; rw [st_f (by omega), st_f (by omega), st_f (by omega), st_f (by omega), st_kk, st_f (by omega)]
    rw [this, wlC_o (by omega)]
  have e171 : mwl (wlC C c b) (cm F c) b 171 = upd (C 171) (cm F c) (if b then -1 else C 171 (cm F c)) := by
    have : mwl (wlC C c b) (cm F c) b 171 = upd (wlC C c b 171) (cm F c) (if b then -1 else wlC C c b 171 (cm F c)) := by unfold mwl mch; rw [st_f (by omega), st_f (by omega), st_f (by omega), st_kk, st_f (by omega), st_f (by omega)]
    rw [this, wlC_o (by omega)]
  have e172 : mwl (wlC C c b) (cm F c) b 172 = upd (C 172) (cm F c) (if b then 0 else C 172 (cm F c)) := by
    have : mwl (wlC C c b) (cm F c) b 172 = upd (wlC C c b 172) (cm F c) (if b then 0 else wlC C c b 172 (cm F c)) := by unfold mwl mch; rw [st_f (by omega), st_f (by omega), st_kk, st_f (by omega), st_f (by omega), st_f (by omega)]
    rw [this, wlC_o (by omega)]
  refine IV_chg ?_ n14 n17 n05
  -- nothing new: kinds and walls as they were
  have same : (∀ k, 0 < k → k ≠ 169 → k < 169 → wlC C c b k = C k) → upd (C 170) (cm F c) (bI b) = C 170 → upd (C 171) (cm F c) (if b then -1 else C 171 (cm F c)) = C 171 → upd (C 172) (cm F c) (if b then 0 else C 172 (cm F c)) = C 172 → SS F P (mwl (wlC C c b) (cm F c) b) := by
    intro s1 s2 s3 s4
    have all : ∀ k, 0 < k → k ≠ 169 → mwl (wlC C c b) (cm F c) b k = C k := fun k k0 k9 => by
      by_cases q : k < 169
      · rw [mo k k9 (by omega) (by omega) (by omega)]; exact s1 k k0 k9 q
      · by_cases q1 : k = 170
        · rw [q1, e170]; exact s2
        by_cases q2 : k = 171
        · rw [q2, e171]; exact s3
        by_cases q3 : k = 172
        · rw [q3, e172]; exact s4
        rw [mo k k9 q1 q2 q3, wlC_o (by omega)]
    refine SS_rate hSS (fun k a1 _ _ a4 _ _ => all k (by omega) a4) n7 n9 (fun x hx => ?_)
    rw [all 173 (by omega) (by omega), all 4 (by omega) (by omega), all 172 (by omega) (by omega), all 3 (by omega) (by omega)]
    exact m4 x hx
  cases b with
  | true =>
    by_cases hw : C 2 c = 1
    · have h5 : C 5 c = -1 := by
        rcases w5 with ⟨z, -⟩ | ⟨x, -, -, z⟩
        · exact z
        · rw [hw] at z; exact absurd z (by decide)
      have h172 : C 172 (cm F c) = 0 := by
        rcases (m4 c hc).2.2 with ⟨z, -⟩ | ⟨-, z⟩
        · unfold hasR at z; rw [hw] at z; exact absurd z (by decide)
        · exact z
      refine same (fun k k0 k9 k1 => ?_) (upd_same (by rw [w1, if_pos hw]; rfl)) (upd_same (by rw [w2, h5]; rfl)) (upd_same h172)
      unfold wlC
      rw [st_f (by omega), if_pos rfl, if_pos hw]
      unfold mkWall
      rw [if_pos h5]
      by_cases q : k = 2
      · rw [q, st_kk]; exact upd_same hw
      · rw [st_f q]
    · have wlt : wlC C c true = st (fgt (mkWall C c)) 0 5 0 := by unfold wlC; rw [if_pos rfl, if_neg hw]
      have x5 : C 5 c = -1 ∨ ∃ x, x < 8 ∧ C 5 c = nI x := by
        rcases w5 with ⟨z, -⟩ | ⟨x, z1, z2, -⟩
        · exact Or.inl z
        · exact Or.inr ⟨x, z1, z2⟩
      refine SS_wall (c := c) hF hSS hc h28 (fun k a1 a2 a3 a4 a5 a6 a7 a8 a9 => ?_) n7 n9 (fun r hr => ?_) (fun x => ?_) (fun x => ?_) (fun x => ?_) (fun x => ?_) (fun x => ?_) (fun x => ?_)
      · rw [mo k a6 a7 a8 a9, wlt, st_f a1]; unfold fgt; rw [stA_f a5, mkWall_o a2 a3 a4]
      · rw [mo 21 (by omega) (by omega) (by omega) (by omega), wlt, st_f (by omega)]
        unfold fgt
        rw [stA_k]
        show (if r < 9 then (0 : Int32) else _) = 0
        rw [if_pos hr]
      · rw [mo 2 (by omega) (by omega) (by omega) (by omega), wlt, st_f (by omega)]
        unfold fgt mkWall
        rw [stA_f (by omega)]
        split
        · simp [st_r]
        · simp [st_r]
      · rw [mo 5 (by omega) (by omega) (by omega) (by omega), wlt, st_f (by omega)]
        unfold fgt mkWall
        rw [stA_f (by omega)]
        rcases x5 with z | ⟨x0, z1, z2⟩
        · rw [if_pos z]
          by_cases q : x = c
          · subst q; simp [st_r, z]
          · simp [st_r, q]
        · rw [if_neg (by rw [z2]; exact nI_nm1 (by omega))]
          simp [st_r]
      · rw [mo 6 (by omega) (by omega) (by omega) (by omega), wlt, st_f (by omega)]
        unfold fgt mkWall
        rw [stA_f (by omega)]
        rcases x5 with z | ⟨x0, z1, z2⟩
        · rw [if_pos z, st_f (by omega), if_neg]
          rintro ⟨e1, e2⟩
          rw [z] at e1
          exact nI_nm1 (a := x) (by omega) e1.symm
        · rw [if_neg (by rw [z2]; exact nI_nm1 (by omega)), st_f (by omega), st_f (by omega), z2, nI_clamp (by omega), st_r, if_pos rfl]
          by_cases q : x = x0
          · rw [if_pos q, if_pos ⟨by rw [q], by omega⟩]
          · rw [if_neg q, if_neg (fun g => q ((nI_eq (by omega) (by omega)).mp g.1).symm)]
      · rw [e170]; rfl
      · rw [e171]; rfl
      · rw [e172]; rfl
  | false =>
    by_cases hw : C 2 c = 1
    · have wlt : wlC C c false = st (fgt (st C 2 c 0)) 0 5 0 := by unfold wlC; rw [if_neg (by decide), if_pos hw]
      refine SS_free (c := c) hF hSS hc hw (fun k a1 a2 a3 a4 a5 => ?_) n7 n9 (fun r hr => ?_) (fun x => ?_) (fun x => ?_)
      · by_cases q1 : k = 171
        · rw [q1, e171]; exact upd_same rfl
        by_cases q2 : k = 172
        · rw [q2, e172]; exact upd_same rfl
        rw [mo k a4 a5 q1 q2, wlt, st_f a1]; unfold fgt; rw [stA_f a3, st_f a2]
      · rw [mo 21 (by omega) (by omega) (by omega) (by omega), wlt, st_f (by omega)]
        unfold fgt
        rw [stA_k]
        show (if r < 9 then (0 : Int32) else _) = 0
        rw [if_pos hr]
      · rw [mo 2 (by omega) (by omega) (by omega) (by omega), wlt, st_f (by omega)]
        unfold fgt
        rw [stA_f (by omega)]
        simp [st_r]
      · rw [e170]; rfl
    · refine same (fun k k0 k9 k1 => ?_) (upd_same (by rw [w1, if_neg hw]; rfl)) (upd_same rfl) (upd_same rfl)
      unfold wlC
      rw [st_f (by omega), if_neg (by decide), if_neg hw]
theorem lg_eqL {a b : Int64} (h : a = b) : lg_cmp a b = 0 := by
  subst h
  unfold lg_cmp
  rw [if_neg (fun q => Int64.lt_irrefl q), if_pos rfl]
theorem law_wallB {b : Bool} (hF : okF F) (hI : IV F P C) (hG : okX G t) (ht : t < 1000) (hL : i + 4 < F.2.2.1) (hb : (b = true) ↔ ¬ F.2.2.2 (i + 3) = 0) (K : nxtL F t i Q) : X y_Law_law 159 [some (.ref 1000000002), some (.ref 0), some (.ref 169), some (.ref 193), some (.int (nI i)), x5, x6] [.int (bI b), .int (F.2.2.2 (i + 2)), .int (F.2.2.2 (i + 1)), .ref 0] (hp F C J G) Q := by
  have hF3 : F.2.2.1 ≤ 2562 := hF.2.2
  obtain ⟨hSS, -⟩ := id hI
  obtain ⟨-, -, -, -, a5, -, a7⟩ := id hSS
  have hP60 := a5.1
  have hx : ∀ c, c < F.1 * F.2.1 → C 5 c = -1 ∨ ∃ e, e < 8 ∧ C 5 c = nI e := fun c hc => by
    rcases (w170 hSS hc).2.2.2.2 with ⟨z, -⟩ | ⟨x, z1, z2, -⟩
    · exact Or.inl z
    · exact Or.inr ⟨x, z1, z2⟩
  -- the flag once more
  have flag : ∀ (D : Ct) (J' : Nat → Int64) (G' : Ex) L S, X y_Law_law 192 L (.int (bI b) :: S) (hp F D J' G') Q → X y_Law_law 184 L (.int (F.2.2.2 (i + 3)) :: S) (hp F D J' G') Q := by
    intro D J' G' L S k
    cases b with
    | true =>
      refine X_bf rfl rfl rfl (hb.mp rfl) ?_
      iterate 2 (refine X_n rfl rfl rfl ?_)
      exact k
    | false =>
      have : F.2.2.2 (i + 3) = 0 := Classical.byContradiction fun q => absurd (hb.mpr q) (by decide)
      refine X_bt rfl rfl rfl this ?_
      iterate 1 (refine X_n rfl rfl rfl ?_)
      exact k
  repeat (refine X_n rfl rfl rfl ?_)
  refine X_k rfl rfl rfl rfl (Y_Lwall (b := b) hF hG hx (fun h => ?_) (fun i' j' a b c d e => ?_) (fun i' j' a b' c d e => ?_))
  · dsimp only
    repeat (refine X_n rfl rfl rfl ?_)
    refine X_li (k := i + 1) rfl rfl (nI_add i 1) (show i + 1 < F.2.2.1 by omega) (show F.2.2.1 < 2 ^ 31 by omega) ?_
    repeat (refine X_n rfl rfl rfl ?_)
    refine X_li (k := i + 2) rfl rfl (nI_add i 2) (show i + 2 < F.2.2.1 by omega) (show F.2.2.1 < 2 ^ 31 by omega) ?_
    repeat (refine X_n rfl rfl rfl ?_)
    refine X_li (k := i + 3) rfl rfl (nI_add i 3) (show i + 3 < F.2.2.1 by omega) (show F.2.2.1 < 2 ^ 31 by omega) ?_
    refine flag _ _ _ _ _ ?_
    refine X_cd rfl rfl rfl rfl (Y_mwall_no h) ?_
    repeat (refine X_n rfl rfl rfl ?_)
    refine X_cd rfl rfl rfl rfl Y_thrown ?_
    repeat (refine X_n rfl rfl rfl ?_)
    refine X_bt rfl rfl rfl st_s ?_
    repeat (refine X_n rfl rfl rfl ?_)
    refine X_bt rfl rfl rfl (show ¬ (1 : Int32) = 0 by decide) ?_
    refine X_n rfl rfl rfl ?_
    exact K P _ _ _ _ _ (IV_no hI) (hG.gx ht 7)
  · have hc := ji_lt a b
    have ecm := cm_ji hF a b
    obtain ⟨-, -, -, w4, -⟩ := w170 hSS hc
    have hpy := per_yes hF hSS hc e
    rw [ecm] at hpy
    dsimp only
    repeat (refine X_n rfl rfl rfl ?_)
    refine X_li (k := i + 1) rfl rfl (nI_add i 1) (show i + 1 < F.2.2.1 by omega) (show F.2.2.1 < 2 ^ 31 by omega) ?_
    repeat (refine X_n rfl rfl rfl ?_)
    refine X_li (k := i + 2) rfl rfl (nI_add i 2) (show i + 2 < F.2.2.1 by omega) (show F.2.2.1 < 2 ^ 31 by omega) ?_
    repeat (refine X_n rfl rfl rfl ?_)
    refine X_li (k := i + 3) rfl rfl (nI_add i 3) (show i + 3 < F.2.2.1 by omega) (show F.2.2.1 < 2 ^ 31 by omega) ?_
    refine flag _ _ _ _ _ ?_
    rw [c, d]
    refine X_cd rfl rfl rfl rfl (Y_mwall_no2 hF a b hP60 w4 hpy) ?_
    repeat (refine X_n rfl rfl rfl ?_)
    refine X_cd rfl rfl rfl rfl Y_thrown ?_
    repeat (refine X_n rfl rfl rfl ?_)
    refine X_bt rfl rfl rfl st_s ?_
    repeat (refine X_n rfl rfl rfl ?_)
    refine X_bt rfl rfl rfl (show ¬ (2 : Int32) = 0 by decide) ?_
    refine X_n rfl rfl rfl ?_
    exact K P _ _ _ _ _ (IV_no hI) (hG.gx ht 8)
  · have hc := ji_lt a b'
    have ecm := cm_ji hF a b'
    have hm5 := m576 hF a b'
    obtain ⟨w1, -, -, w4, -⟩ := w170 hSS hc
    have hpn := per_no hF hSS hc e
    have hIV := IV_wall (b := b) hF hSS hc e
    rw [ecm] at hpn w1 hIV
    refine (show X _ _ _ _ (hp F (wlC C (j' * F.1 + i') b) _ G) _ from ?_)
    have q9 : wlC C (j' * F.1 + i') b 169 9 = nI P := by rw [wlC_o (by omega)]; exact w4
    have q175 : ∀ p, p < P → ¬ wlC C (j' * F.1 + i') b 175 p = nI (24 * j' + i') := by rw [wlC_o (by omega)]; exact hpn
    have q170 : wlC C (j' * F.1 + i') b 170 (24 * j' + i') = C 170 (24 * j' + i') := by rw [wlC_o (by omega)]
    have hthr : mwl (wlC C (j' * F.1 + i') b) (24 * j' + i') b 169 0 = 0 := by simp [mwl, mch, st_r]
    repeat (refine X_n rfl rfl rfl ?_)
    refine X_li (k := i + 1) rfl rfl (nI_add i 1) (show i + 1 < F.2.2.1 by omega) (show F.2.2.1 < 2 ^ 31 by omega) ?_
    repeat (refine X_n rfl rfl rfl ?_)
    refine X_li (k := i + 2) rfl rfl (nI_add i 2) (show i + 2 < F.2.2.1 by omega) (show F.2.2.1 < 2 ^ 31 by omega) ?_
    repeat (refine X_n rfl rfl rfl ?_)
    refine X_li (k := i + 3) rfl rfl (nI_add i 3) (show i + 3 < F.2.2.1 by omega) (show F.2.2.1 < 2 ^ 31 by omega) ?_
    refine flag _ _ _ _ _ ?_
    rw [c, d]
    refine X_cd rfl rfl rfl rfl (Y_mwall hF a b' hP60 q9 q175 (by rw [q170]; exact a7.1 _ hm5)) ?_
    rw [q170, w1]
    repeat (refine X_n rfl rfl rfl ?_)
    refine X_cd rfl rfl rfl rfl Y_thrown ?_
    repeat (refine X_n rfl rfl rfl ?_)
    refine X_bt rfl rfl rfl hthr ?_
    repeat (refine X_n rfl rfl rfl ?_)
    refine X_bf rfl rfl rfl (fun h => h rfl) ?_
    repeat (refine X_n rfl rfl rfl ?_)
    refine X_ln rfl rfl rfl rfl rfl (show 0 < 1 by omega) (show 1 < 2 ^ 31 by omega) ?_
    by_cases hw : C 2 (j' * F.1 + i') = 1
    · rw [if_pos hw, if_pos hw]
      repeat (refine X_n rfl rfl rfl ?_)
      refine X_bf rfl rfl rfl (show ¬ (1 : Int32) = 0 by decide) ?_
      repeat (refine X_n rfl rfl rfl ?_)
      refine X_bt rfl rfl rfl (lg_eqL rfl) ?_
      refine X_n rfl rfl rfl ?_
      exact K P _ _ _ _ _ hIV (hG.s ht)
    · rw [if_neg hw, if_neg hw]
      repeat (refine X_n rfl rfl rfl ?_)
      refine X_bt rfl rfl rfl rfl ?_
      repeat (refine X_n rfl rfl rfl ?_)
      refine X_bt rfl rfl rfl (lg_eqL rfl) ?_
      refine X_n rfl rfl rfl ?_
      exact K P _ _ _ _ _ hIV (hG.s ht)
theorem law_wall (hF : okF F) (hI : IV F P C) (hG : okX G t) (ht : t < 1000) (hL : i + 4 < F.2.2.1) (K : nxtL F t i Q) : X y_Law_law 132 [some (.ref 1000000002), some (.ref 0), some (.ref 169), some (.ref 193), some (.int (nI i)), x5, x6] [] (hp F C J G) Q := by
  have hF3 : F.2.2.1 ≤ 2562 := hF.2.2
  repeat (refine X_n rfl rfl rfl ?_)
  refine X_li (k := i + 1) rfl rfl (nI_add i 1) (show i + 1 < F.2.2.1 by omega) (show F.2.2.1 < 2 ^ 31 by omega) ?_
  repeat (refine X_n rfl rfl rfl ?_)
  refine X_li (k := i + 2) rfl rfl (nI_add i 2) (show i + 2 < F.2.2.1 by omega) (show F.2.2.1 < 2 ^ 31 by omega) ?_
  repeat (refine X_n rfl rfl rfl ?_)
  refine X_li (k := i + 3) rfl rfl (nI_add i 3) (show i + 3 < F.2.2.1 by omega) (show F.2.2.1 < 2 ^ 31 by omega) ?_
  by_cases q : F.2.2.2 (i + 3) = 0
  · refine X_bt rfl rfl rfl q ?_
    iterate 1 (refine X_n rfl rfl rfl ?_)
    exact law_wallB (b := false) hF hI hG ht hL ⟨fun h => absurd h (by decide), fun h => absurd q h⟩ K
  · refine X_bf rfl rfl rfl q ?_
    iterate 2 (refine X_n rfl rfl rfl ?_)
    exact law_wallB (b := true) hF hI hG ht hL ⟨fun _ => q, fun _ => rfl⟩ K
end
