/-! rules of the later walks -/
def nPut (i : Instr) : Bool := match i with
  | .putfield _ => false
  | _ => true
section XR5
variable {y pc len tgt pc' : Nat} {i : Instr} {L L' : mL} {S S' : List Value} {h h' : mH} {Q : mE → mH → Prop}
theorem X_n (h1 : m_at y pc = some (i, len, tgt)) (h0 : nPut i = true) (h2 : m_step y pc i len tgt L S h = some (pc', L', S', h')) (k : X y pc' L' S' h' Q) : X y pc L S h Q := X_s h1 h2 k
/-- a call, and what follows -/
theorem X_k {y' : Nat} (h1 : m_at y pc = some (i, len, tgt)) (h2 : m_go y pc i len tgt L S h = none) (h3 : m_inv y i = some y') (h4 : m_may y y' S h = true) (hY : Y y' (S.take (m_na y')).reverse h (fun o h' => match o with
    | .inl v => X y (pc + 3) L (v.toList ++ S.drop (m_na y')) h' Q
    | .inr x => (match m_catch y pc h' x with | some t => X y t L [.ref x] h' Q | none => Q (.inr x) h'))) : X y pc L S h Q :=
  X_c h1 h2 h3 h4 hY (fun _ _ q => q) (fun _ _ q => q)
/-- the same number on the stack's top -/
theorem X_top {v w : Int32} (e : v = w) (k : X y pc L (.int w :: S) h Q) : X y pc L (.int v :: S) h Q := e ▸ k
/-- a branch on a boolean -/
theorem X_z {P : Prop} [Decidable P] {o : Int} (h1 : m_at y pc = some (.ifCond .eq o, len, tgt)) (kt : ¬ P → X y tgt L S h Q) (kf : P → X y (pc + len) L S h Q) : X y pc L (.int (bI (decide P)) :: S) h Q := by
  by_cases p : P
  · rw [decide_eq_true p]; exact X_bf h1 rfl rfl bI_t0 (kf p)
  · rw [decide_eq_false p]; exact X_bt h1 rfl rfl bI_f0 (kt p)
theorem X_nz {P : Prop} [Decidable P] {o : Int} (h1 : m_at y pc = some (.ifCond .ne o, len, tgt)) (kt : P → X y tgt L S h Q) (kf : ¬ P → X y (pc + len) L S h Q) : X y pc L (.int (bI (decide P)) :: S) h Q := by
  by_cases p : P
  · rw [decide_eq_true p]; exact X_bt h1 rfl rfl bI_t0 (kt p)
  · rw [decide_eq_false p]; exact X_bf h1 rfl rfl (fun h => h bI_f0) (kf p)
end XR5
theorem lv_le {n : Nat} (hn : n ≤ 576) : ∀ c, lv n c ≤ 36000 := by
  intro c
  unfold lv
  split <;> omega
theorem ln_lt {F : Fx} (hF : okF F) (k : Nat) : ln (F.1 * F.2.1) k < 2 ^ 31 := by
  have := lv_le hF.n (lc k)
  unfold ln
  omega
section
variable {F : Fx} {C : Ct} {J : Nat → Int64} {G : Ex} {y pc tgt a k : Nat} {j v : Int32} {L : mL} {S : List Value} {Q : mE → mH → Prop}
theorem X_la (h1 : m_at y pc = some (.iaload, 1, tgt)) (ha : kd a = 1) (hj : j = nI k) (hF : okF F) (hk : k < ln (F.1 * F.2.1) a) (kk : X y (pc + 1) L (.int (C a k) :: S) (hp F C J G) Q) : X y pc L (.int j :: .ref a :: S) (hp F C J G) Q :=
  X_li h1 (hp_at ha rfl) hj hk (ln_lt hF a) kk
theorem hp_atz (hk : kd a = 2) : (hp F C J G).1 a = mZ (ln (F.1 * F.2.1) a) (C a) := by
  show hf F C J G a = _
  rw [hf_lt (kd_lt (Or.inr hk)), sh, hk]
  rfl
theorem X_lb (h1 : m_at y pc = some (.baload, 1, tgt)) (ha : kd a = 2) (hj : j = nI k) (hF : okF F) (hk : k < ln (F.1 * F.2.1) a) (kk : X y (pc + 1) L (.int (C a k) :: S) (hp F C J G) Q) : X y pc L (.int j :: .ref a :: S) (hp F C J G) Q :=
  X_lz h1 (hp_atz ha) hj hk (ln_lt hF a) kk
theorem X_sa (h1 : m_at y pc = some (.iastore, 1, tgt)) (ha : kd a = 1) (hj : j = nI k) (hF : okF F) (hk : k < ln (F.1 * F.2.1) a) (kk : X y (pc + 1) L S (hp F (st C a k v) J G) Q) : X y pc L (.int v :: .int j :: .ref a :: S) (hp F C J G) Q := by
  refine X_ti h1 (hp_at ha rfl) (Nat.lt_trans (kd_lt (Or.inl ha)) (by decide)) hj hk (ln_lt hF a) ?_
  rw [hp_st ha rfl]
  exact kk
theorem X_sb (h1 : m_at y pc = some (.bastore, 1, tgt)) (ha : kd a = 2) (hv : v = 0 ∨ v = 1) (hj : j = nI k) (hF : okF F) (hk : k < ln (F.1 * F.2.1) a) (kk : X y (pc + 1) L S (hp F (st C a k v) J G) Q) : X y pc L (.int v :: .int j :: .ref a :: S) (hp F C J G) Q := by
  refine X_tn (a := a) (S' := S) (c := fun k => mZ (ln (F.1 * F.2.1) a) (upd (C a) k v)) h1 rfl rfl rfl ?_ hj hk (ln_lt hF a) ?_
  · have h2 : decide (a < m_sB) = true := decide_eq_true (Nat.lt_trans (kd_lt (Or.inr ha)) (by decide))
    have h3 : (decide (v = 0) || decide (v = 1)) = true := by rcases hv with rfl | rfl <;> rfl
    simp only [m_as, hp_atz ha, h2, h3]
    rfl
  · rw [hp_stz ha rfl]
    exact kk
/-- an exception's object more -/
def gx (G : Ex) (ci : Nat) : Ex := (fun k => if k = 194 + G.2.1 then mO ci [] else G.1 k, G.2.1 + 1, G.2.2 + 6)
def okX (G : Ex) (t : Nat) : Prop := G.2.1 ≤ t ∧ G.2.2 ≤ 1000000 + 6 * t ∧ t ≤ 1000
theorem okX.gx {G : Ex} {t : Nat} (h : okX G t) (ht : t < 1000) (ci : Nat) : okX (gx G ci) (t + 1) := by
  obtain ⟨h1, h2, h3⟩ := h
  exact ⟨by show G.2.1 + 1 ≤ t + 1; omega, by show G.2.2 + 6 ≤ 1000000 + 6 * (t + 1); omega, by omega⟩
theorem okX.s {G : Ex} {t : Nat} (h : okX G t) (ht : t < 1000) : okX G (t + 1) := by
  obtain ⟨h1, h2, h3⟩ := h
  exact ⟨by omega, by omega, by omega⟩
theorem hp_push {t ci : Nat} (hG : okX G t) : m_push (hp F C J G) (mO ci []) 6 = hp F C J (gx G ci) := by
  obtain ⟨h1, h2, h3⟩ := hG
  refine Prod.ext (funext fun k => ?_) (Prod.ext ?_ rfl)
  · show (if k = 194 + G.2.1 then mO ci [] else hf F C J G k) = hf F C J (gx G ci) k
    by_cases e : k = 194 + G.2.1
    · rw [if_pos e]
      have b1 : Nat.blt k 194 = false := by rw [Bool.eq_false_iff]; intro q; rw [Nat.blt_eq] at q; omega
      have b2 : Nat.blt k 1000000000 = true := by rw [Nat.blt_eq]; omega
      rw [hf, b1, b2, cond_false, cond_true]
      show _ = (if k = 194 + G.2.1 then mO ci [] else G.1 k)
      rw [if_pos e]
    · rw [if_neg e]
      unfold hf
      congr 2
      show _ = (if k = 194 + G.2.1 then mO ci [] else G.1 k)
      rw [if_neg e]
  · show 194 + G.2.1 + 1 = 194 + (G.2.1 + 1)
    omega
/-- a throw -/
theorem X_w {t x ci len : Nat} {i : Instr} (hG : okX G t) (h1 : m_at y pc = some (i, len, tgt)) (h2 : m_go y pc i len tgt L S (hp F C J G) = none) (h3 : m_inv y i = none) (h4 : m_ret y i S = none) (h5 : m_thr y pc i S (hp F C J G) = some (194 + G.2.1, m_push (hp F C J G) (mO ci []) 6)) (k : Q (.inr (194 + G.2.1)) (hp F C J (gx G ci))) : X y pc L S (hp F C J G) Q := by
  rw [hp_push hG] at h5
  exact X_x h1 h2 h3 h4 h5 k
theorem hp_exc {t ci : Nat} (hG : okX G t) : (hp F C J (gx G ci)).1 (194 + G.2.1) = mO ci [] := by
  rw [← hp_push hG]
  exact if_pos rfl
theorem catch_ex {t ci : Nat} (hG : okX G t) : m_catch y pc (hp F C J (gx G ci)) (194 + G.2.1) = ((m_hd y).find? (fun r => (Nat.ble r.1 pc && Nat.blt pc r.2.1) && Nat.beq r.2.2.2 ci)).map (fun r => r.2.2.1) := by
  unfold m_catch
  rw [hp_exc hG]
/-- a cell of the storey, or none -/
theorem cell_or (F : Fx) (hF : okF F) (x z : Int32) : (∃ i j, i < F.1 ∧ j < F.2.1 ∧ x = nI i ∧ z = nI j) ∨ (x < 0 ∨ nI F.1 ≤ x ∨ z < 0 ∨ nI F.2.1 ≤ z) := by
  obtain ⟨⟨f1, f2⟩, ⟨f3, f4⟩, -⟩ := hF
  by_cases h1 : x < 0
  · exact Or.inr (Or.inl h1)
  by_cases h2 : nI F.1 ≤ x
  · exact Or.inr (Or.inr (Or.inl h2))
  by_cases h3 : z < 0
  · exact Or.inr (Or.inr (Or.inr (Or.inl h3)))
  by_cases h4 : nI F.2.1 ≤ z
  · exact Or.inr (Or.inr (Or.inr (Or.inr h4)))
  left
  obtain ⟨i, hi, e⟩ := nI_of h1
  obtain ⟨j, hj, e2⟩ := nI_of h3
  subst e; subst e2
  exact ⟨i, j, (nI_ltI (by omega) (by omega)).mp (Int32.not_le.mp h2), (nI_ltI (by omega) (by omega)).mp (Int32.not_le.mp h4), rfl, rfl⟩
end
