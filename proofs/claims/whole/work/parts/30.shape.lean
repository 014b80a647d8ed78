/-! THE SHAPE OF THE HEAP behind the three constructions of the law: cells 0 to 168 the object x and all its own, 169 to 192 the reference, 193 the law's long[]. Written by wip/whole/gen_shape.py -/
/-- 1: an array of ints, 2: of booleans, 0: another cell -/
def kd (k : Nat) : Nat := (bif Nat.blt k 97 then (bif Nat.blt k 48 then (bif Nat.blt k 24 then (bif Nat.blt k 12 then (bif Nat.blt k 6 then (bif Nat.blt k 3 then (bif Nat.blt k 1 then 0 else (bif Nat.blt k 2 then 0 else 1)) else 1) else (bif Nat.blt k 9 then 1 else (bif Nat.blt k 10 then 1 else 0))) else (bif Nat.blt k 18 then 1 else (bif Nat.blt k 21 then 1 else (bif Nat.blt k 22 then 2 else (bif Nat.blt k 23 then 1 else 0))))) else (bif Nat.blt k 36 then (bif Nat.blt k 30 then (bif Nat.blt k 27 then 1 else (bif Nat.blt k 28 then 1 else (bif Nat.blt k 29 then 1 else 0))) else 1) else (bif Nat.blt k 42 then (bif Nat.blt k 39 then (bif Nat.blt k 37 then 1 else (bif Nat.blt k 38 then 1 else 0)) else 1) else 1))) else 1) else (bif Nat.blt k 145 then (bif Nat.blt k 121 then (bif Nat.blt k 109 then (bif Nat.blt k 103 then (bif Nat.blt k 100 then (bif Nat.blt k 98 then 1 else (bif Nat.blt k 99 then 1 else 0)) else 1) else 1) else 1) else 1) else (bif Nat.blt k 169 then (bif Nat.blt k 157 then 1 else (bif Nat.blt k 163 then 1 else (bif Nat.blt k 166 then (bif Nat.blt k 164 then 1 else (bif Nat.blt k 165 then 0 else 1)) else 1))) else (bif Nat.blt k 181 then (bif Nat.blt k 175 then (bif Nat.blt k 172 then (bif Nat.blt k 170 then 0 else (bif Nat.blt k 171 then 2 else 1)) else 1) else 1) else (bif Nat.blt k 187 then 1 else (bif Nat.blt k 190 then 1 else (bif Nat.blt k 192 then (bif Nat.blt k 191 then 1 else 2) else (bif Nat.blt k 193 then 1 else 0))))))))
/-- which length -/
def lc (k : Nat) : Nat := (bif Nat.blt k 97 then (bif Nat.blt k 48 then (bif Nat.blt k 24 then (bif Nat.blt k 12 then (bif Nat.blt k 6 then 0 else (bif Nat.blt k 9 then (bif Nat.blt k 7 then 1 else 0) else (bif Nat.blt k 10 then 2 else 0))) else (bif Nat.blt k 18 then 0 else (bif Nat.blt k 21 then 0 else (bif Nat.blt k 22 then 3 else 0)))) else (bif Nat.blt k 36 then (bif Nat.blt k 30 then (bif Nat.blt k 27 then 4 else (bif Nat.blt k 28 then 4 else 0)) else (bif Nat.blt k 33 then 4 else (bif Nat.blt k 34 then 4 else (bif Nat.blt k 35 then 0 else 4)))) else (bif Nat.blt k 42 then (bif Nat.blt k 39 then (bif Nat.blt k 37 then 4 else (bif Nat.blt k 38 then 4 else 0)) else 0) else 0))) else 0) else (bif Nat.blt k 145 then 0 else (bif Nat.blt k 169 then (bif Nat.blt k 157 then 0 else (bif Nat.blt k 163 then 0 else (bif Nat.blt k 166 then (bif Nat.blt k 164 then 4 else (bif Nat.blt k 165 then 0 else 5)) else (bif Nat.blt k 167 then 0 else (bif Nat.blt k 168 then 6 else 7))))) else (bif Nat.blt k 181 then (bif Nat.blt k 175 then (bif Nat.blt k 172 then (bif Nat.blt k 170 then 0 else 8) else (bif Nat.blt k 173 then 8 else (bif Nat.blt k 174 then 8 else 1))) else (bif Nat.blt k 178 then 4 else (bif Nat.blt k 179 then 4 else (bif Nat.blt k 180 then 9 else 8)))) else (bif Nat.blt k 187 then (bif Nat.blt k 184 then 4 else (bif Nat.blt k 185 then 4 else 10)) else (bif Nat.blt k 190 then (bif Nat.blt k 188 then 4 else 8) else (bif Nat.blt k 192 then (bif Nat.blt k 191 then 8 else 4) else (bif Nat.blt k 193 then 7 else 0))))))))
def lv (n c : Nat) : Nat := match c with
  | 0 => n
  | 1 => 8
  | 2 => 4 * n
  | 3 => 9
  | 4 => 60
  | 5 => 12
  | 6 => 156
  | 7 => 4096
  | 8 => 576
  | 9 => 5184
  | _ => 36000
/-- the length of an array, n: how many cells the storey has -/
def ln (n k : Nat) : Nat := lv n (lc k)
/-- the contents: of each cell each place -/
abbrev Ct : Type := Nat → Nat → Int32
/-- the objects, the arrays of rows, the law's array -/
def oth (w h : Nat) (C : Ct) (J : Nat → Int64) (k : Nat) : mC := match k with
  | 0 => mO 5 [.ref 1, .ref 10, .ref 23, .ref 29, .ref 164, .int (C 0 5)]
  | 1 => mO 4 [.int (nI w), .int (nI h), .int (nI (w * h)), .ref 2, .ref 3, .ref 4, .ref 5, .ref 6, .ref 7, .ref 8, .ref 9, .int (C 1 11)]
  | 10 => mO 1 [.ref 1, .ref 11, .ref 21, .ref 22]
  | 11 => mG 9 (fun i => 12 + i)
  | 23 => mO 2 [.ref 24, .ref 25, .ref 26, .ref 27, .ref 28, .int (C 23 5)]
  | 29 => mO 0 [.ref 1, .ref 10, .ref 23, .ref 30, .ref 31, .ref 32, .ref 33, .ref 34, .int (C 29 8), .ref 35, .ref 36, .ref 37, .ref 38, .ref 99, .ref 160, .ref 161, .ref 162, .ref 163, .int (C 29 18)]
  | 38 => mG 60 (fun i => 39 + i)
  | 99 => mG 60 (fun i => 100 + i)
  | 164 => mO 3 [.ref 1, .ref 165, .ref 166, .ref 167, .ref 168]
  | 169 => mO 6 [.int (C 169 0), .int (nI w), .int (nI h), .ref 170, .ref 171, .ref 172, .ref 173, .int (C 169 7), .ref 174, .int (C 169 9), .ref 175, .ref 176, .ref 177, .ref 178, .int (C 169 14), .ref 179, .ref 180, .int (C 169 17), .int (C 169 18), .ref 181, .ref 182, .ref 183, .ref 184, .ref 185, .ref 186, .ref 187, .ref 188, .ref 189, .ref 190, .ref 191, .ref 192]
  | 193 => mJ 1 J
  | _ => mNo
def sh (w h : Nat) (C : Ct) (J : Nat → Int64) (k : Nat) : mC := match kd k with
  | 1 => .inl (0, ln (w * h) k, C k)
  | 2 => .inl (1, ln (w * h) k, C k)
  | _ => oth w h C J k
/-- what lies beyond: the exceptions' objects, how many, the slots in use -/
abbrev Ex : Type := (Nat → mC) × Nat × Nat
/-- what does not change: width, height, the script's length, the script -/
abbrev Fx : Type := Nat × Nat × Nat × (Nat → Int32)
/-- THE HEAP -/
def hf (F : Fx) (C : Ct) (J : Nat → Int64) (G : Ex) (k : Nat) : mC := bif Nat.blt k 194 then sh F.1 F.2.1 C J k else bif Nat.blt k 1000000000 then G.1 k else m_romC F.2.2.1 F.2.2.2 (k - 1000000000)
def hp (F : Fx) (C : Ct) (J : Nat → Int64) (G : Ex) : mH := (hf F C J G, 194 + G.2.1, G.2.2)
theorem hf_lt {F : Fx} {C : Ct} {J : Nat → Int64} {G : Ex} {k : Nat} (h : k < 194) : hf F C J G k = sh F.1 F.2.1 C J k := by
  have : Nat.blt k 194 = true := by rw [Nat.blt_eq]; exact h
  rw [hf, this]; rfl
theorem hf_ge {F : Fx} {C C' : Ct} {J J' : Nat → Int64} {G : Ex} {k : Nat} (h : ¬ k < 194) : hf F C J G k = hf F C' J' G k := by
  have : Nat.blt k 194 = false := by rw [Bool.eq_false_iff]; intro e; rw [Nat.blt_eq] at e; exact h e
  rw [hf, hf, this, cond_false, cond_false]
theorem set_ext {h h' : mH} {k : Nat} {c : mC} (h1 : h'.2 = h.2) (h2 : h'.1 k = c) (h3 : ∀ j, j ≠ k → h'.1 j = h.1 j) : m_set h k c = h' := by
  unfold m_set
  refine Prod.ext (funext fun j => ?_) ?_
  · by_cases e : j = k
    · subst e; simp only [if_true]; exact h2.symm
    · simp only [if_neg e]; exact (h3 j e).symm
  · exact h1.symm
/-- a place of a cell is written -/
def st (C : Ct) (k i : Nat) (v : Int32) : Ct := fun k' => if k' = k then upd (C k) i v else C k'
theorem st_s {C : Ct} {k i : Nat} {v : Int32} : st C k i v k i = v := by simp [st, upd]
theorem st_i {C : Ct} {k i j : Nat} {v : Int32} (h : j ≠ i) : st C k i v k j = C k j := by simp [st, upd, h]
theorem st_k {C : Ct} {k i j k' : Nat} {v : Int32} (h : k' ≠ k) : st C k i v k' j = C k' j := by simp [st, h]
theorem st_f {C : Ct} {k i k' : Nat} {v : Int32} (h : k' ≠ k) : st C k i v k' = C k' := by simp [st, h]
theorem st_kk {C : Ct} {k i : Nat} {v : Int32} : st C k i v k = upd (C k) i v := by simp [st]
theorem kd_lt {k : Nat} (h : kd k = 1 ∨ kd k = 2) : k < 194 := by
  rcases Nat.lt_or_ge k 194 with q | q
  · exact q
  · exfalso
    have hb : ∀ m, m ≤ 194 → Nat.blt k m = false := fun m hm => by
      rw [Bool.eq_false_iff]; intro e; rw [Nat.blt_eq] at e; omega
    have e : kd k = 0 := by
      unfold kd
      simp [hb]
    rw [e] at h
    omega
theorem oth_st {w h k i j : Nat} {C : Ct} {J : Nat → Int64} {v : Int32} (hk : kd k = 1 ∨ kd k = 2) : oth w h (st C k i v) J j = oth w h C J j := by
  have h0 : k ≠ 0 ∧ k ≠ 1 ∧ k ≠ 23 ∧ k ≠ 29 ∧ k ≠ 169 := by
    refine ⟨?_, ?_, ?_, ?_, ?_⟩ <;> (rintro rfl; revert hk; decide)
  unfold oth
  split <;> simp [st, Ne.symm h0.1, Ne.symm h0.2.1, Ne.symm h0.2.2.1, Ne.symm h0.2.2.2.1, Ne.symm h0.2.2.2.2]
theorem sh_st {w h k i j : Nat} {C : Ct} {J : Nat → Int64} {v : Int32} (hk : kd k = 1 ∨ kd k = 2) (hj : j ≠ k) : sh w h (st C k i v) J j = sh w h C J j := by
  unfold sh
  rw [oth_st hk, st_f hj]
/-- an array's place is written -/
theorem hp_st {F : Fx} {C : Ct} {J : Nat → Int64} {G : Ex} {k i n : Nat} {v : Int32} (hk : kd k = 1) (hn : n = ln (F.1 * F.2.1) k) : m_set (hp F C J G) k (mI n (upd (C k) i v)) = hp F (st C k i v) J G := by
  have hlt := kd_lt (Or.inl hk)
  refine set_ext rfl ?_ (fun j hj => ?_)
  · show hf F (st C k i v) J G k = _
    rw [hf_lt hlt, sh, hk, st_kk, hn]
    rfl
  · show hf F (st C k i v) J G j = hf F C J G j
    by_cases q : j < 194
    · rw [hf_lt q, hf_lt q, sh_st (Or.inl hk) hj]
    · exact hf_ge q
theorem hp_stz {F : Fx} {C : Ct} {J : Nat → Int64} {G : Ex} {k i n : Nat} {v : Int32} (hk : kd k = 2) (hn : n = ln (F.1 * F.2.1) k) : m_set (hp F C J G) k (mZ n (upd (C k) i v)) = hp F (st C k i v) J G := by
  have hlt := kd_lt (Or.inr hk)
  refine set_ext rfl ?_ (fun j hj => ?_)
  · show hf F (st C k i v) J G k = _
    rw [hf_lt hlt, sh, hk, st_kk, hn]
    rfl
  · show hf F (st C k i v) J G j = hf F C J G j
    by_cases q : j < 194
    · rw [hf_lt q, hf_lt q, sh_st (Or.inr hk) hj]
    · exact hf_ge q
theorem hp_f0_5 {F : Fx} {C : Ct} {J : Nat → Int64} {G : Ex} {v : Int32} {c : mC} (hc : c = oth F.1 F.2.1 (st C 0 5 v) J 0) : m_set (hp F C J G) 0 c = hp F (st C 0 5 v) J G := by
  refine set_ext rfl ?_ (fun q hq => ?_)
  · rw [hc]; rfl
  · show hf F (st C 0 5 v) J G q = hf F C J G q
    by_cases h : q < 194
    · rw [hf_lt h, hf_lt h]
      unfold sh
      rw [st_f hq]
      have : oth F.1 F.2.1 (st C 0 5 v) J q = oth F.1 F.2.1 C J q := by
        unfold oth
        split <;> first | rfl | (exact absurd rfl hq) | simp [st, upd]
      rw [this]
    · exact hf_ge h
theorem hp_f1_11 {F : Fx} {C : Ct} {J : Nat → Int64} {G : Ex} {v : Int32} {c : mC} (hc : c = oth F.1 F.2.1 (st C 1 11 v) J 1) : m_set (hp F C J G) 1 c = hp F (st C 1 11 v) J G := by
  refine set_ext rfl ?_ (fun q hq => ?_)
  · rw [hc]; rfl
  · show hf F (st C 1 11 v) J G q = hf F C J G q
    by_cases h : q < 194
    · rw [hf_lt h, hf_lt h]
      unfold sh
      rw [st_f hq]
      have : oth F.1 F.2.1 (st C 1 11 v) J q = oth F.1 F.2.1 C J q := by
        unfold oth
        split <;> first | rfl | (exact absurd rfl hq) | simp [st, upd]
      rw [this]
    · exact hf_ge h
theorem hp_f23_5 {F : Fx} {C : Ct} {J : Nat → Int64} {G : Ex} {v : Int32} {c : mC} (hc : c = oth F.1 F.2.1 (st C 23 5 v) J 23) : m_set (hp F C J G) 23 c = hp F (st C 23 5 v) J G := by
  refine set_ext rfl ?_ (fun q hq => ?_)
  · rw [hc]; rfl
  · show hf F (st C 23 5 v) J G q = hf F C J G q
    by_cases h : q < 194
    · rw [hf_lt h, hf_lt h]
      unfold sh
      rw [st_f hq]
      have : oth F.1 F.2.1 (st C 23 5 v) J q = oth F.1 F.2.1 C J q := by
        unfold oth
        split <;> first | rfl | (exact absurd rfl hq) | simp [st, upd]
      rw [this]
    · exact hf_ge h
theorem hp_f29_8 {F : Fx} {C : Ct} {J : Nat → Int64} {G : Ex} {v : Int32} {c : mC} (hc : c = oth F.1 F.2.1 (st C 29 8 v) J 29) : m_set (hp F C J G) 29 c = hp F (st C 29 8 v) J G := by
  refine set_ext rfl ?_ (fun q hq => ?_)
  · rw [hc]; rfl
  · show hf F (st C 29 8 v) J G q = hf F C J G q
    by_cases h : q < 194
    · rw [hf_lt h, hf_lt h]
      unfold sh
      rw [st_f hq]
      have : oth F.1 F.2.1 (st C 29 8 v) J q = oth F.1 F.2.1 C J q := by
        unfold oth
        split <;> first | rfl | (exact absurd rfl hq) | simp [st, upd]
      rw [this]
    · exact hf_ge h
theorem hp_f29_18 {F : Fx} {C : Ct} {J : Nat → Int64} {G : Ex} {v : Int32} {c : mC} (hc : c = oth F.1 F.2.1 (st C 29 18 v) J 29) : m_set (hp F C J G) 29 c = hp F (st C 29 18 v) J G := by
  refine set_ext rfl ?_ (fun q hq => ?_)
  · rw [hc]; rfl
  · show hf F (st C 29 18 v) J G q = hf F C J G q
    by_cases h : q < 194
    · rw [hf_lt h, hf_lt h]
      unfold sh
      rw [st_f hq]
      have : oth F.1 F.2.1 (st C 29 18 v) J q = oth F.1 F.2.1 C J q := by
        unfold oth
        split <;> first | rfl | (exact absurd rfl hq) | simp [st, upd]
      rw [this]
    · exact hf_ge h
theorem hp_f169_0 {F : Fx} {C : Ct} {J : Nat → Int64} {G : Ex} {v : Int32} {c : mC} (hc : c = oth F.1 F.2.1 (st C 169 0 v) J 169) : m_set (hp F C J G) 169 c = hp F (st C 169 0 v) J G := by
  refine set_ext rfl ?_ (fun q hq => ?_)
  · rw [hc]; rfl
  · show hf F (st C 169 0 v) J G q = hf F C J G q
    by_cases h : q < 194
    · rw [hf_lt h, hf_lt h]
      unfold sh
      rw [st_f hq]
      have : oth F.1 F.2.1 (st C 169 0 v) J q = oth F.1 F.2.1 C J q := by
        unfold oth
        split <;> first | rfl | (exact absurd rfl hq) | simp [st, upd]
      rw [this]
    · exact hf_ge h
theorem hp_f169_7 {F : Fx} {C : Ct} {J : Nat → Int64} {G : Ex} {v : Int32} {c : mC} (hc : c = oth F.1 F.2.1 (st C 169 7 v) J 169) : m_set (hp F C J G) 169 c = hp F (st C 169 7 v) J G := by
  refine set_ext rfl ?_ (fun q hq => ?_)
  · rw [hc]; rfl
  · show hf F (st C 169 7 v) J G q = hf F C J G q
    by_cases h : q < 194
    · rw [hf_lt h, hf_lt h]
      unfold sh
      rw [st_f hq]
      have : oth F.1 F.2.1 (st C 169 7 v) J q = oth F.1 F.2.1 C J q := by
        unfold oth
        split <;> first | rfl | (exact absurd rfl hq) | simp [st, upd]
      rw [this]
    · exact hf_ge h
theorem hp_f169_9 {F : Fx} {C : Ct} {J : Nat → Int64} {G : Ex} {v : Int32} {c : mC} (hc : c = oth F.1 F.2.1 (st C 169 9 v) J 169) : m_set (hp F C J G) 169 c = hp F (st C 169 9 v) J G := by
  refine set_ext rfl ?_ (fun q hq => ?_)
  · rw [hc]; rfl
  · show hf F (st C 169 9 v) J G q = hf F C J G q
    by_cases h : q < 194
    · rw [hf_lt h, hf_lt h]
      unfold sh
      rw [st_f hq]
      have : oth F.1 F.2.1 (st C 169 9 v) J q = oth F.1 F.2.1 C J q := by
        unfold oth
        split <;> first | rfl | (exact absurd rfl hq) | simp [st, upd]
      rw [this]
    · exact hf_ge h
theorem hp_f169_14 {F : Fx} {C : Ct} {J : Nat → Int64} {G : Ex} {v : Int32} {c : mC} (hc : c = oth F.1 F.2.1 (st C 169 14 v) J 169) : m_set (hp F C J G) 169 c = hp F (st C 169 14 v) J G := by
  refine set_ext rfl ?_ (fun q hq => ?_)
  · rw [hc]; rfl
  · show hf F (st C 169 14 v) J G q = hf F C J G q
    by_cases h : q < 194
    · rw [hf_lt h, hf_lt h]
      unfold sh
      rw [st_f hq]
      have : oth F.1 F.2.1 (st C 169 14 v) J q = oth F.1 F.2.1 C J q := by
        unfold oth
        split <;> first | rfl | (exact absurd rfl hq) | simp [st, upd]
      rw [this]
    · exact hf_ge h
theorem hp_f169_17 {F : Fx} {C : Ct} {J : Nat → Int64} {G : Ex} {v : Int32} {c : mC} (hc : c = oth F.1 F.2.1 (st C 169 17 v) J 169) : m_set (hp F C J G) 169 c = hp F (st C 169 17 v) J G := by
  refine set_ext rfl ?_ (fun q hq => ?_)
  · rw [hc]; rfl
  · show hf F (st C 169 17 v) J G q = hf F C J G q
    by_cases h : q < 194
    · rw [hf_lt h, hf_lt h]
      unfold sh
      rw [st_f hq]
      have : oth F.1 F.2.1 (st C 169 17 v) J q = oth F.1 F.2.1 C J q := by
        unfold oth
        split <;> first | rfl | (exact absurd rfl hq) | simp [st, upd]
      rw [this]
    · exact hf_ge h
theorem hp_f169_18 {F : Fx} {C : Ct} {J : Nat → Int64} {G : Ex} {v : Int32} {c : mC} (hc : c = oth F.1 F.2.1 (st C 169 18 v) J 169) : m_set (hp F C J G) 169 c = hp F (st C 169 18 v) J G := by
  refine set_ext rfl ?_ (fun q hq => ?_)
  · rw [hc]; rfl
  · show hf F (st C 169 18 v) J G q = hf F C J G q
    by_cases h : q < 194
    · rw [hf_lt h, hf_lt h]
      unfold sh
      rw [st_f hq]
      have : oth F.1 F.2.1 (st C 169 18 v) J q = oth F.1 F.2.1 C J q := by
        unfold oth
        split <;> first | rfl | (exact absurd rfl hq) | simp [st, upd]
      rw [this]
    · exact hf_ge h
