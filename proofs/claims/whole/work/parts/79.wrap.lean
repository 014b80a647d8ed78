/-! the law's own calls -/
section
variable {F : Fx} {C A : Ct} {J : Nat → Int64} {G : Ex} {Q : mE → mH → Prop} {t P T y pc tt ci tgt : Nat} {L : mL} {S : List Value} {v : Int64}
theorem X_ex (hG : okX G t) (hh : ((m_hd y).find? (fun r => (Nat.ble r.1 pc && Nat.blt pc r.2.1) && Nat.beq r.2.2.2 ci)).map (fun r => r.2.2.1) = some tt) (k : X y tt L [.ref (194 + G.2.1)] (hp F C J (gx G ci)) Q) :
    (match m_catch y pc (hp F C J (gx G ci)) (194 + G.2.1) with | some t => X y t L [.ref (194 + G.2.1)] (hp F C J (gx G ci)) Q | none => Q (.inr (194 + G.2.1)) (hp F C J (gx G ci))) := by
  rw [catch_ex hG, hh]
  exact k
theorem X_sj (h1 : m_at y pc = some (.lastore, 1, tgt)) (k : X y (pc + 1) L S (hp F C (vp_updL J 0 v) G) Q) : X y pc L (.long v :: .int 0 :: .ref 193 :: S) (hp F C J G) Q := by
  refine X_tn (k := 0) (n := 1) (a := 193) (c := fun k => mJ 1 (vp_updL J k v)) h1 rfl rfl rfl rfl rfl (by omega) (by omega) ?_
  rw [hp_J]
  exact k
theorem Y_Lsmoke {x z s : Int32} (hF : okF F) (hG : okX G t)
    (k7 : (x < 0 ∨ nI F.1 ≤ x ∨ z < 0 ∨ nI F.2.1 ≤ z) ∨ ¬ (-1 ≤ s ∧ s ≤ 3600) → Q (.inl (some (.int 1))) (hp F C J (gx G 7)))
    (kr : ∀ i j, i < F.1 → j < F.2.1 → x = nI i → z = nI j → (-1 ≤ s ∧ s ≤ 3600) → Q (.inl (some (.int 0))) (hp F (st (st C 4 (j * F.1 + i) s) 0 5 0) (vp_updL J 0 (C 4 (j * F.1 + i)).toInt64) G)) :
    Y y_Law_smoke [.ref 0, .int x, .int z, .int s, .ref 193] (hp F C J G) Q := by
  unfold Y
  repeat (refine X_n rfl rfl rfl ?_)
  refine X_k rfl rfl rfl rfl (Y_smoke hF hG (fun h => ?_) (fun i j a b c d e => ?_))
  · dsimp only
    refine X_ex hG rfl ?_
    repeat (refine X_n rfl rfl rfl ?_)
    exact X_r rfl rfl rfl rfl (k7 h)
  · dsimp only
    repeat (refine X_n rfl rfl rfl ?_)
    refine X_sj rfl ?_
    repeat (refine X_n rfl rfl rfl ?_)
    exact X_r rfl rfl rfl rfl (kr i j a b c d e)
theorem Y_Lhabit {x e : Int32} {p : Nat} (hF : okF F) (hG : okX G t) (hp60 : p ≤ 60) (hP : C 23 5 = nI p)
    (k7 : ¬ (0 ≤ x ∧ x < nI p) ∨ ¬ (-1 ≤ e ∧ e < C 1 11) → Q (.inl (some (.int 1))) (hp F C J (gx G 7)))
    (kr : ∀ i, i < p → x = nI i → (-1 ≤ e ∧ e < C 1 11) → Q (.inl (some (.int 0))) (hp F (st (st C 27 i e) 0 5 0) (vp_updL J 0 (C 27 i).toInt64) G)) :
    Y y_Law_habit [.ref 0, .int x, .int e, .ref 193] (hp F C J G) Q := by
  unfold Y
  repeat (refine X_n rfl rfl rfl ?_)
  refine X_k rfl rfl rfl rfl (Y_habit hF hG hp60 hP (fun h => ?_) (fun i a b c => ?_))
  · dsimp only
    refine X_ex hG rfl ?_
    repeat (refine X_n rfl rfl rfl ?_)
    exact X_r rfl rfl rfl rfl (k7 h)
  · dsimp only
    repeat (refine X_n rfl rfl rfl ?_)
    refine X_sj rfl ?_
    repeat (refine X_n rfl rfl rfl ?_)
    exact X_r rfl rfl rfl rfl (kr i a b c)
theorem Y_Ldoor {x z r : Int32} (hF : okF F) (hG : okX G t)
    (k7 : (x < 0 ∨ nI F.1 ≤ x ∨ z < 0 ∨ nI F.2.1 ≤ z) ∨ ¬ (1 ≤ r ∧ r ≤ 5) → Q (.inl (some (.int 1))) (hp F C J (gx G 7)))
    (k8 : ∀ i j, i < F.1 → j < F.2.1 → x = nI i → z = nI j → (1 ≤ r ∧ r ≤ 5) → (C 2 (j * F.1 + i) = 1 ∨ C 2 (j * F.1 + i) = 2) → Q (.inl (some (.int 2))) (hp F C J (gx G 8)))
    (kr : ∀ i j, i < F.1 → j < F.2.1 → x = nI i → z = nI j → (1 ≤ r ∧ r ≤ 5) → ¬ C 2 (j * F.1 + i) = 1 → ¬ C 2 (j * F.1 + i) = 2 → Q (.inl (some (.int 0))) (hp F (st (st (st C 2 (j * F.1 + i) 3) 3 (j * F.1 + i) r) 0 5 0) J G)) :
    Y y_Law_door [.ref 0, .int x, .int z, .int r] (hp F C J G) Q := by
  unfold Y
  repeat (refine X_n rfl rfl rfl ?_)
  refine X_k rfl rfl rfl rfl (Y_door hF hG (fun h => ?_) (fun i j a b c d e f => ?_) (fun i j a b c d e f g => ?_))
  · dsimp only
    refine X_ex hG rfl ?_
    repeat (refine X_n rfl rfl rfl ?_)
    exact X_r rfl rfl rfl rfl (k7 h)
  · dsimp only
    refine X_ex hG rfl ?_
    repeat (refine X_n rfl rfl rfl ?_)
    exact X_r rfl rfl rfl rfl (k8 i j a b c d e f)
  · dsimp only
    repeat (refine X_n rfl rfl rfl ?_)
    exact X_r rfl rfl rfl rfl (kr i j a b c d e f g)
theorem Y_Lexit {x z r : Int32} {n8 : Nat} (hF : okF F) (hG : okX G t) (hX8 : n8 ≤ 8) (hX : C 1 11 = nI n8)
    (k7 : (x < 0 ∨ nI F.1 ≤ x ∨ z < 0 ∨ nI F.2.1 ≤ z) ∨ ¬ (1 ≤ r ∧ r ≤ 5) → Q (.inl (some (.int 1))) (hp F C J (gx G 7)))
    (k8 : ∀ i j, i < F.1 → j < F.2.1 → x = nI i → z = nI j → (1 ≤ r ∧ r ≤ 5) → (C 2 (j * F.1 + i) = 1 ∨ ¬ C 28 (j * F.1 + i) = -1 ∨ (¬ C 2 (j * F.1 + i) = 2 ∧ n8 = 8)) → Q (.inl (some (.int 2))) (hp F C J (gx G 8)))
    (ke : ∀ i j, i < F.1 → j < F.2.1 → x = nI i → z = nI j → (1 ≤ r ∧ r ≤ 5) → C 2 (j * F.1 + i) = 2 → C 28 (j * F.1 + i) = -1 → Q (.inl (some (.int 0))) (hp F (st (st C 3 (j * F.1 + i) r) 0 5 0) (vp_updL J 0 (C 5 (j * F.1 + i)).toInt64) G))
    (kr : ∀ i j, i < F.1 → j < F.2.1 → x = nI i → z = nI j → (1 ≤ r ∧ r ≤ 5) → ¬ C 2 (j * F.1 + i) = 1 → ¬ C 2 (j * F.1 + i) = 2 → C 28 (j * F.1 + i) = -1 → n8 < 8 → Q (.inl (some (.int 0))) (hp F (st (st (fgt (st (st (st (st C 2 (j * F.1 + i) 2) 5 (j * F.1 + i) (nI n8)) 6 n8 (nI (j * F.1 + i))) 1 11 (nI (n8 + 1)))) 3 (j * F.1 + i) r) 0 5 0) (vp_updL J 0 (nI n8).toInt64) G)) :
    Y y_Law_exit [.ref 0, .int x, .int z, .int r, .ref 193] (hp F C J G) Q := by
  unfold Y
  repeat (refine X_n rfl rfl rfl ?_)
  refine X_k rfl rfl rfl rfl (Y_exit hF hG hX8 hX (fun h => ?_) (fun i j a b c d e f => ?_) (fun i j a b c d e f g => ?_) (fun i j a b c d e f g h8 h9 => ?_))
  · dsimp only
    refine X_ex hG rfl ?_
    repeat (refine X_n rfl rfl rfl ?_)
    exact X_r rfl rfl rfl rfl (k7 h)
  · dsimp only
    refine X_ex hG rfl ?_
    repeat (refine X_n rfl rfl rfl ?_)
    exact X_r rfl rfl rfl rfl (k8 i j a b c d e f)
  · dsimp only
    repeat (refine X_n rfl rfl rfl ?_)
    refine X_sj rfl ?_
    repeat (refine X_n rfl rfl rfl ?_)
    exact X_r rfl rfl rfl rfl (ke i j a b c d e f g)
  · dsimp only
    repeat (refine X_n rfl rfl rfl ?_)
    refine X_sj rfl ?_
    repeat (refine X_n rfl rfl rfl ?_)
    exact X_r rfl rfl rfl rfl (kr i j a b c d e f g h8 h9)
theorem Y_Lperson {x z a d : Int32} {p : Nat} (hF : okF F) (hG : okX G t) (hp60 : p ≤ 60) (hP : C 23 5 = nI p)
    (k7 : (x < 0 ∨ nI F.1 ≤ x ∨ z < 0 ∨ nI F.2.1 ≤ z) ∨ ¬ (1 ≤ a ∧ a ≤ 5) ∨ ¬ (0 ≤ d ∧ d ≤ 600) → Q (.inl (some (.int 1))) (hp F C J (gx G 7)))
    (k8 : ∀ i j, i < F.1 → j < F.2.1 → x = nI i → z = nI j → (1 ≤ a ∧ a ≤ 5) → (0 ≤ d ∧ d ≤ 600) → (C 2 (j * F.1 + i) = 1 ∨ C 2 (j * F.1 + i) = 2 ∨ ¬ C 28 (j * F.1 + i) = -1 ∨ p = 60) → Q (.inl (some (.int 2))) (hp F C J (gx G 8)))
    (kr : ∀ i j, i < F.1 → j < F.2.1 → x = nI i → z = nI j → (1 ≤ a ∧ a ≤ 5) → (0 ≤ d ∧ d ≤ 600) → ¬ C 2 (j * F.1 + i) = 1 → ¬ C 2 (j * F.1 + i) = 2 → C 28 (j * F.1 + i) = -1 → p < 60 → Q (.inl (some (.int 0))) (hp F (addP (st C 0 5 0) p (j * F.1 + i) a d) (vp_updL J 0 (nI p).toInt64) G)) :
    Y y_Law_person [.ref 0, .int x, .int z, .int a, .int d, .ref 193] (hp F C J G) Q := by
  unfold Y
  repeat (refine X_n rfl rfl rfl ?_)
  refine X_k rfl rfl rfl rfl (Y_person hF hG hp60 hP (fun h => ?_) (fun i j a b c d e f g => ?_) (fun i j a b c d e f g h8 h9 h10 => ?_))
  · dsimp only
    refine X_ex hG rfl ?_
    repeat (refine X_n rfl rfl rfl ?_)
    exact X_r rfl rfl rfl rfl (k7 h)
  · dsimp only
    refine X_ex hG rfl ?_
    repeat (refine X_n rfl rfl rfl ?_)
    exact X_r rfl rfl rfl rfl (k8 i j a b c d e f g)
  · dsimp only
    repeat (refine X_n rfl rfl rfl ?_)
    refine X_sj rfl ?_
    repeat (refine X_n rfl rfl rfl ?_)
    exact X_r rfl rfl rfl rfl (kr i j a b c d e f g h8 h9 h10)
theorem Y_Lwall {x z : Int32} {b : Bool} (hF : okF F) (hG : okX G t) (hx : ∀ c, c < F.1 * F.2.1 → C 5 c = -1 ∨ ∃ e, e < 8 ∧ C 5 c = nI e)
    (k7 : (x < 0 ∨ nI F.1 ≤ x ∨ z < 0 ∨ nI F.2.1 ≤ z) → Q (.inl (some (.int 1))) (hp F C J (gx G 7)))
    (k8 : ∀ i j, i < F.1 → j < F.2.1 → x = nI i → z = nI j → ¬ C 28 (j * F.1 + i) = -1 → Q (.inl (some (.int 2))) (hp F C J (gx G 8)))
    (kr : ∀ i j, i < F.1 → j < F.2.1 → x = nI i → z = nI j → C 28 (j * F.1 + i) = -1 → Q (.inl (some (.int 0)))
      (hp F (st (if b then (if C 2 (j * F.1 + i) = 1 then mkWall C (j * F.1 + i) else fgt (mkWall C (j * F.1 + i))) else (if C 2 (j * F.1 + i) = 1 then fgt (st C 2 (j * F.1 + i) 0) else C)) 0 5 0) (vp_updL J 0 (if C 2 (j * F.1 + i) = 1 then 1 else 0)) G)) :
    Y y_Law_wall [.ref 0, .int x, .int z, .int (bI b), .ref 193] (hp F C J G) Q := by
  unfold Y
  repeat (refine X_n rfl rfl rfl ?_)
  refine X_k rfl rfl rfl rfl (Y_wall hF hG hx (fun h => ?_) (fun i j a b c d e => ?_) (fun i j a b c d e => ?_))
  · dsimp only
    refine X_ex hG rfl ?_
    repeat (refine X_n rfl rfl rfl ?_)
    exact X_r rfl rfl rfl rfl (k7 h)
  · dsimp only
    refine X_ex hG rfl ?_
    repeat (refine X_n rfl rfl rfl ?_)
    exact X_r rfl rfl rfl rfl (k8 i j a b c d e)
  · have kr := kr i j a b c d e
    dsimp only
    refine X_z rfl (fun q => ?_) (fun q => ?_)
    · rw [if_neg (c := C 2 (j * F.1 + i) = 1) (t := (1 : Int64)) q] at kr
      repeat (refine X_n rfl rfl rfl ?_)
      refine X_sj rfl ?_
      repeat (refine X_n rfl rfl rfl ?_)
      exact X_r rfl rfl rfl rfl kr
    · rw [if_pos (c := C 2 (j * F.1 + i) = 1) (t := (1 : Int64)) q] at kr
      repeat (refine X_n rfl rfl rfl ?_)
      refine X_sj rfl ?_
      repeat (refine X_n rfl rfl rfl ?_)
      exact X_r rfl rfl rfl rfl kr
theorem Y_Lwalk {x z q : Int32} (hF : okF F) (hG : okX G t) (hS : okS F C) (hN : okN F C)
    (k7 : (x < 0 ∨ nI F.1 ≤ x ∨ z < 0 ∨ nI F.2.1 ≤ z) ∨ ¬ (-1 ≤ q ∧ q < C 1 11) → Q (.inl (some (.int 1))) (hp F C J (gx G 7)))
    (kr : ∀ i j r C', i < F.1 → j < F.2.1 → x = nI i → z = nI j → r < 9 → q + 1 = nI r → nI r ≤ C 1 11 → sameN C C' → okN F C' → Q (.inl (some (.int 0))) (hp F C' (vp_updL J 0 (nuC F C r (j * F.1 + i)).toInt64) G)) :
    Y y_Law_walk [.ref 0, .int x, .int z, .int q, .ref 193] (hp F C J G) Q := by
  unfold Y
  repeat (refine X_n rfl rfl rfl ?_)
  refine X_k rfl rfl rfl rfl (Y_walk hF hG hS hN (fun h => ?_) (fun i j r C' a b c d e f g h8 h9 => ?_))
  · dsimp only
    refine X_ex hG rfl ?_
    repeat (refine X_n rfl rfl rfl ?_)
    exact X_r rfl rfl rfl rfl (k7 h)
  · dsimp only
    repeat (refine X_n rfl rfl rfl ?_)
    refine X_sj rfl ?_
    repeat (refine X_n rfl rfl rfl ?_)
    exact X_r rfl rfl rfl rfl (kr i j r C' a b c d e f g h8 h9)
theorem Y_Ltold {a w : Int32} (hF : okF F) (hG : okX G t) (hP60 : P ≤ 60) (hP : C 23 5 = nI P) (hb : C 0 5 = 0 ∨ C 0 5 = 1)
    (k7 : ¬ (0 ≤ a ∧ a < C 23 5) ∨ ¬ (0 ≤ w ∧ w ≤ 3) → Q (.inl (some (.int 1))) (hp F C J (gx G 7)))
    (k8 : ∀ p j, p < P → a = nI p → j < 4 → w = nI j → C 0 5 = 0 → Q (.inl (some (.int 2))) (hp F C J (gx G 8)))
    (kr : ∀ p j, p < P → a = nI p → j < 4 → w = nI j → C 0 5 = 1 → Q (.inl (some (.int 0))) (hp F C (vp_updL J 0 (C (30 + j) p).toInt64) G)) :
    Y y_Law_told [.ref 0, .int a, .int w, .ref 193] (hp F C J G) Q := by
  unfold Y
  repeat (refine X_n rfl rfl rfl ?_)
  refine X_k rfl rfl rfl rfl (Y_told hF hG hP60 hP hb (fun h => ?_) (fun i j a b c d e => ?_) (fun i j a b c d e => ?_))
  · dsimp only
    refine X_ex hG rfl ?_
    repeat (refine X_n rfl rfl rfl ?_)
    exact X_r rfl rfl rfl rfl (k7 h)
  · dsimp only
    refine X_ex hG rfl ?_
    repeat (refine X_n rfl rfl rfl ?_)
    exact X_r rfl rfl rfl rfl (k8 i j a b c d e)
  · dsimp only
    repeat (refine X_n rfl rfl rfl ?_)
    refine X_sj rfl ?_
    repeat (refine X_n rfl rfl rfl ?_)
    exact X_r rfl rfl rfl rfl (kr i j a b c d e)
theorem Y_Lthrough {x z : Int32} (hF : okF F) (hG : okX G t) (hb : C 0 5 = 0 ∨ C 0 5 = 1)
    (k7 : (x < 0 ∨ nI F.1 ≤ x ∨ z < 0 ∨ nI F.2.1 ≤ z) → Q (.inl (some (.int 1))) (hp F C J (gx G 7)))
    (k8 : ∀ i j, i < F.1 → j < F.2.1 → x = nI i → z = nI j → C 0 5 = 0 → Q (.inl (some (.int 2))) (hp F C J (gx G 8)))
    (kr : ∀ i j, i < F.1 → j < F.2.1 → x = nI i → z = nI j → C 0 5 = 1 → Q (.inl (some (.int 0))) (hp F C (vp_updL J 0 (C 34 (j * F.1 + i)).toInt64) G)) :
    Y y_Law_through [.ref 0, .int x, .int z, .ref 193] (hp F C J G) Q := by
  unfold Y
  repeat (refine X_n rfl rfl rfl ?_)
  refine X_k rfl rfl rfl rfl (Y_through hF hG hb (fun h => ?_) (fun i j a b c d e => ?_) (fun i j a b c d e => ?_))
  · dsimp only
    refine X_ex hG rfl ?_
    repeat (refine X_n rfl rfl rfl ?_)
    exact X_r rfl rfl rfl rfl (k7 h)
  · dsimp only
    refine X_ex hG rfl ?_
    repeat (refine X_n rfl rfl rfl ?_)
    exact X_r rfl rfl rfl rfl (k8 i j a b c d e)
  · dsimp only
    repeat (refine X_n rfl rfl rfl ?_)
    refine X_sj rfl ?_
    repeat (refine X_n rfl rfl rfl ?_)
    exact X_r rfl rfl rfl rfl (kr i j a b c d e)
theorem Y_Lat {a s x : Int32} (hF : okF F) (hG : okX G t) (hP : okP F C P) (hb : C 0 5 = 0 ∨ C 0 5 = 1) (hr : C 0 5 = 1 → ∀ p, p < P → cqP A C p ∧ pinv F C T A p) (hT : T ≤ 3600) (hxy : ∀ c, c < F.1 * F.2.1 → C 7 c = nI (c % F.1) ∧ C 8 c = nI (c / F.1))
    (k7 : ¬ (0 ≤ a ∧ a < C 23 5) ∨ ¬ (0 ≤ s ∧ s ≤ 3600) ∨ ¬ (0 ≤ x ∧ x ≤ 1) → Q (.inl (some (.int 1))) (hp F C J (gx G 7)))
    (k8 : ∀ p j, p < P → a = nI p → (0 ≤ s ∧ s ≤ 3600) → j < 2 → x = nI j → C 0 5 = 0 → Q (.inl (some (.int 2))) (hp F C J (gx G 8)))
    (kn : ∀ p j, p < P → a = nI p → (0 ≤ s ∧ s ≤ 3600) → j < 2 → x = nI j → C 0 5 = 1 → ¬ inB A p s → Q (.inl (some (.int 0))) (hp F C (vp_updL J 0 (-1 : Int32).toInt64) G))
    (ky : ∀ p j, p < P → a = nI p → (0 ≤ s ∧ s ≤ 3600) → j < 2 → x = nI j → C 0 5 = 1 → inB A p s → Q (.inl (some (.int 0))) (hp F C (vp_updL J 0 (if j = 0 then nI (pl C A p s % F.1) else nI (pl C A p s / F.1)).toInt64) G)) :
    Y y_Law_at [.ref 0, .int a, .int s, .int x, .ref 193] (hp F C J G) Q := by
  unfold Y
  repeat (refine X_n rfl rfl rfl ?_)
  refine X_k rfl rfl rfl rfl (Y_at hF hG hP hb hr hT hxy (fun h => ?_) (fun i j a b c d e f => ?_) (fun i j a b c d e f g => ?_) (fun i j a b c d e f g => ?_))
  · dsimp only
    refine X_ex hG rfl ?_
    repeat (refine X_n rfl rfl rfl ?_)
    exact X_r rfl rfl rfl rfl (k7 h)
  · dsimp only
    refine X_ex hG rfl ?_
    repeat (refine X_n rfl rfl rfl ?_)
    exact X_r rfl rfl rfl rfl (k8 i j a b c d e f)
  · dsimp only
    repeat (refine X_n rfl rfl rfl ?_)
    refine X_sj rfl ?_
    repeat (refine X_n rfl rfl rfl ?_)
    exact X_r rfl rfl rfl rfl (kn i j a b c d e f g)
  · dsimp only
    repeat (refine X_n rfl rfl rfl ?_)
    refine X_sj rfl ?_
    repeat (refine X_n rfl rfl rfl ?_)
    exact X_r rfl rfl rfl rfl (ky i j a b c d e f g)
theorem Y_Lleft {s : Int32} (hF : okF F) (hG : okX G t) (hP : okP F C P) (hb : C 0 5 = 0 ∨ C 0 5 = 1) (hr : C 0 5 = 1 → ∀ p, p < P → cqP A C p ∧ pinv F C T A p) (hT : T ≤ 3600)
    (k7 : ¬ (0 ≤ s ∧ s ≤ 3600) → Q (.inl (some (.int 1))) (hp F C J (gx G 7)))
    (k8 : (0 ≤ s ∧ s ≤ 3600) → C 0 5 = 0 → Q (.inl (some (.int 2))) (hp F C J (gx G 8)))
    (kr : (0 ≤ s ∧ s ≤ 3600) → C 0 5 = 1 → Q (.inl (some (.int 0))) (hp F C (vp_updL J 0 (nI (cB A s P)).toInt64) G)) :
    Y y_Law_left [.ref 0, .int s, .ref 193] (hp F C J G) Q := by
  unfold Y
  repeat (refine X_n rfl rfl rfl ?_)
  refine X_k rfl rfl rfl rfl (Y_left hF hG hP hb hr hT (fun h => ?_) (fun a b => ?_) (fun a b => ?_))
  · dsimp only
    refine X_ex hG rfl ?_
    repeat (refine X_n rfl rfl rfl ?_)
    exact X_r rfl rfl rfl rfl (k7 h)
  · dsimp only
    refine X_ex hG rfl ?_
    repeat (refine X_n rfl rfl rfl ?_)
    exact X_r rfl rfl rfl rfl (k8 a b)
  · dsimp only
    repeat (refine X_n rfl rfl rfl ?_)
    refine X_sj rfl ?_
    repeat (refine X_n rfl rfl rfl ?_)
    exact X_r rfl rfl rfl rfl (kr a b)
end
