/-! WALKING NUMBERS, without a machine: a search from the goals outward finds the least numbers of steps -/
/-- c is at most k steps from a goal -/
def Rch (n : Nat) (nb : Nat → Nat → Option Nat) (goal op : Nat → Prop) : Nat → Nat → Prop
  | 0, c => c < n ∧ goal c
  | k + 1, c => Rch n nb goal op k c ∨ (op c ∧ ∃ w d, w < 4 ∧ nb c w = some d ∧ Rch n nb goal op k d)
/-- d is c's number -/
def Num (n : Nat) (nb : Nat → Nat → Option Nat) (goal op : Nat → Prop) (c d : Nat) : Prop := Rch n nb goal op d c ∧ ∀ k, k < d → ¬ Rch n nb goal op k c
theorem Num.uniq {n : Nat} {nb : Nat → Nat → Option Nat} {goal op : Nat → Prop} {c d d' : Nat} (h : Num n nb goal op c d) (h' : Num n nb goal op c d') : d = d' := by
  rcases Nat.lt_trichotomy d d' with q | q | q
  · exact absurd h.1 (h'.2 d q)
  · exact q
  · exact absurd h'.1 (h.2 d' q)
theorem pig : ∀ (n : Nat) (l : List Nat), l.Nodup → (∀ x ∈ l, x < n) → l.length ≤ n := by
  intro n
  induction n with
  | zero =>
    intro l _ h
    cases l with
    | nil => simp
    | cons a t => exact absurd (h a List.mem_cons_self) (Nat.not_lt_zero a)
  | succ n ih =>
    intro l hd h
    have h1 := ih (l.erase n) (hd.erase n) (fun x hx => by
      have hm := (List.Nodup.mem_erase_iff hd).mp hx
      have := h x hm.2
      have := hm.1
      omega)
    by_cases hm : n ∈ l
    · rw [List.length_erase_of_mem hm] at h1
      omega
    · rw [List.erase_of_not_mem hm] at h1
      omega
section BFS
variable {n : Nat} {nb : Nat → Nat → Option Nat} {goal op : Nat → Prop}
/-- the search: the queue q, the place nx in it that is spread, its first w ways done; row, dn: the numbers so far -/
def Bf (n : Nat) (nb : Nat → Nat → Option Nat) (goal op : Nat → Prop) (q : List Nat) (nx w : Nat) (row : Nat → Int32) (dn : Nat → Nat) : Prop :=
  q.Nodup ∧ (∀ c ∈ q, c < n) ∧ (∀ c, c < n → c ∉ q → row c = -1) ∧ (∀ c ∈ q, row c = nI (dn c) ∧ Rch n nb goal op (dn c) c) ∧ (∀ i, i < q.length → dn (q.getD i 0) ≤ i) ∧
  (∀ i j, i ≤ j → j < q.length → dn (q.getD i 0) ≤ dn (q.getD j 0)) ∧ (nx < q.length → ∀ j, j < q.length → dn (q.getD j 0) ≤ dn (q.getD nx 0) + 1) ∧
  (∀ i w', i < q.length → (i < nx ∨ (i = nx ∧ w' < w)) → w' < 4 → ∀ o, nb (q.getD i 0) w' = some o → o ∈ q ∧ dn o ≤ dn (q.getD i 0) + 1) ∧ (∀ c, c < n → goal c → c ∈ q ∧ dn c = 0) ∧ nx ≤ q.length
theorem getD_mem {q : List Nat} {i : Nat} (h : i < q.length) : q.getD i 0 ∈ q := by
  rw [List.getD_eq_getElem?_getD, List.getElem?_eq_getElem h]; exact List.getElem_mem h
theorem mem_getD {q : List Nat} {c : Nat} (h : c ∈ q) : ∃ i, i < q.length ∧ q.getD i 0 = c := by
  obtain ⟨i, hi, e⟩ := List.mem_iff_getElem.mp h
  exact ⟨i, hi, by rw [List.getD_eq_getElem?_getD, List.getElem?_eq_getElem hi]; exact e⟩
theorem getD_app {q : List Nat} {o i : Nat} (h : i < q.length) : (q ++ [o]).getD i 0 = q.getD i 0 := by
  rw [List.getD_eq_getElem?_getD, List.getD_eq_getElem?_getD, List.getElem?_append_left h]
theorem getD_last {q : List Nat} {o : Nat} : (q ++ [o]).getD q.length 0 = o := by
  rw [List.getD_eq_getElem?_getD, List.getElem?_append_right (Nat.le_refl _)]; simp
theorem Bf.skip {q : List Nat} {nx w : Nat} {row : Nat → Int32} {dn : Nat → Nat} (B : Bf n nb goal op q nx w row dn) (hx : nx < q.length) (h : ∀ o, nb (q.getD nx 0) w = some o → o ∈ q) : Bf n nb goal op q nx (w + 1) row dn := by
  obtain ⟨b1, b2, b3, b4, b5, b6, b7, b8, b9, b10⟩ := B
  refine ⟨b1, b2, b3, b4, b5, b6, b7, fun i w' hi hw hw4 o ho => ?_, b9, b10⟩
  by_cases e : i = nx ∧ w' = w
  · obtain ⟨rfl, rfl⟩ := e
    have hm := h o ho
    obtain ⟨j, hj, ej⟩ := mem_getD hm
    exact ⟨hm, by rw [← ej]; exact b7 hx j hj⟩
  · exact b8 i w' hi (by omega) hw4 o ho
theorem Bf.add {q : List Nat} {nx w o : Nat} {row : Nat → Int32} {dn : Nat → Nat} (B : Bf n nb goal op q nx w row dn) (hx : nx < q.length) (hw : w < 4) (h : nb (q.getD nx 0) w = some o) (ho : o ∉ q) (hon : o < n) (hop : op o) (hsym : ∃ w', w' < 4 ∧ nb o w' = some (q.getD nx 0)) :
    Bf n nb goal op (q ++ [o]) nx (w + 1) (fun c => if c = o then nI (dn (q.getD nx 0) + 1) else row c) (fun c => if c = o then dn (q.getD nx 0) + 1 else dn c) := by
  obtain ⟨b1, b2, b3, b4, b5, b6, b7, b8, b9, b10⟩ := B
  have hne : ∀ c ∈ q, c ≠ o := fun c hc e => ho (e ▸ hc)
  have hold : ∀ i, i < q.length → (fun c => if c = o then dn (q.getD nx 0) + 1 else dn c) ((q ++ [o]).getD i 0) = dn (q.getD i 0) := fun i hi => by
    rw [getD_app hi]
    exact if_neg (hne _ (getD_mem hi))
  have hnew : (fun c => if c = o then dn (q.getD nx 0) + 1 else dn c) ((q ++ [o]).getD q.length 0) = dn (q.getD nx 0) + 1 := by
    rw [getD_last]; exact if_pos rfl
  have hlen : (q ++ [o]).length = q.length + 1 := by simp
  have hup : ∀ j, j < q.length + 1 → (fun c => if c = o then dn (q.getD nx 0) + 1 else dn c) ((q ++ [o]).getD j 0) ≤ dn (q.getD nx 0) + 1 := fun j hj => by
    rcases Nat.lt_or_ge j q.length with hl | hl
    · rw [hold j hl]; exact b7 hx j hl
    · have : j = q.length := by omega
      subst this
      rw [hnew]; exact Nat.le_refl _
  refine ⟨?_, ?_, ?_, ?_, ?_, ?_, ?_, ?_, ?_, ?_⟩
  · rw [List.nodup_append]
    exact ⟨b1, by simp, fun a ha b hb => by simp at hb; rw [hb]; exact hne a ha⟩
  · intro c hc
    rcases List.mem_append.mp hc with hc | hc
    · exact b2 c hc
    · simp at hc; rw [hc]; exact hon
  · intro c hc hq
    have h1 : c ∉ q := fun hm => hq (List.mem_append_left _ hm)
    have h2 : c ≠ o := fun e => hq (by rw [e]; simp)
    show (if c = o then _ else row c) = -1
    rw [if_neg h2]; exact b3 c hc h1
  · intro c hc
    show (if c = o then _ else row c) = nI (if c = o then _ else dn c) ∧ Rch n nb goal op (if c = o then _ else dn c) c
    by_cases e : c = o
    · subst e
      rw [if_pos rfl, if_pos rfl]
      obtain ⟨w', hw', hs⟩ := hsym
      exact ⟨rfl, Or.inr ⟨hop, w', _, hw', hs, (b4 _ (getD_mem hx)).2⟩⟩
    · rw [if_neg e, if_neg e]
      rcases List.mem_append.mp hc with hc | hc
      · exact b4 c hc
      · simp at hc; exact absurd hc e
  · intro i hi
    rw [hlen] at hi
    rcases Nat.lt_or_ge i q.length with hl | hl
    · rw [hold i hl]; exact b5 i hl
    · have : i = q.length := by omega
      subst this
      rw [hnew]
      have := b5 nx hx
      omega
  · intro i j hij hj
    rw [hlen] at hj
    rcases Nat.lt_or_ge j q.length with hl | hl
    · rw [hold i (by omega), hold j hl]; exact b6 i j hij hl
    · have : j = q.length := by omega
      subst this
      rw [hnew]
      exact hup i (by omega)
  · intro _ j hj
    rw [hlen] at hj
    rw [hold nx hx]
    exact hup j hj
  · intro i w' hi hh hw4 o' ho'
    rw [hlen] at hi
    have hi' : i < q.length := by omega
    rw [hold i hi']
    rw [getD_app hi'] at ho'
    by_cases e : i = nx ∧ w' = w
    · obtain ⟨rfl, rfl⟩ := e
      rw [h] at ho'
      cases ho'
      exact ⟨by simp, by show (if o = o then _ else _) ≤ _; rw [if_pos rfl]; exact Nat.le_refl _⟩
    · obtain ⟨g1, g2⟩ := b8 i w' hi' (by omega) hw4 o' ho'
      exact ⟨List.mem_append_left _ g1, by show (if o' = o then _ else dn o') ≤ _; rw [if_neg (hne _ g1)]; exact g2⟩
  · intro c hc hg
    obtain ⟨g1, g2⟩ := b9 c hc hg
    exact ⟨List.mem_append_left _ g1, by show (if c = o then _ else dn c) = 0; rw [if_neg (hne _ g1)]; exact g2⟩
  · rw [hlen]; omega
theorem Bf.next {q : List Nat} {nx : Nat} {row : Nat → Int32} {dn : Nat → Nat} (B : Bf n nb goal op q nx 4 row dn) (hx : nx < q.length) : Bf n nb goal op q (nx + 1) 0 row dn := by
  obtain ⟨b1, b2, b3, b4, b5, b6, b7, b8, b9, b10⟩ := B
  refine ⟨b1, b2, b3, b4, b5, b6, fun hn j hj => ?_, fun i w' hi hh hw4 o ho => ?_, b9, hx⟩
  · have := b7 hx j hj
    have := b6 nx (nx + 1) (by omega) hn
    omega
  · exact b8 i w' hi (by omega) hw4 o ho
theorem Bf.len {q : List Nat} {nx w : Nat} {row : Nat → Int32} {dn : Nat → Nat} (B : Bf n nb goal op q nx w row dn) : q.length ≤ n := pig n q B.1 B.2.1
theorem Bf.room {q : List Nat} {nx w o : Nat} {row : Nat → Int32} {dn : Nat → Nat} (B : Bf n nb goal op q nx w row dn) (ho : o ∉ q) (hon : o < n) : q.length < n := by
  have := pig n (q ++ [o]) (by rw [List.nodup_append]; exact ⟨B.1, by simp, fun a ha b hb => by simp at hb; rw [hb]; exact fun e => ho (e ▸ ha)⟩) (fun c hc => by
    rcases List.mem_append.mp hc with hc | hc
    · exact B.2.1 c hc
    · simp at hc; rw [hc]; exact hon)
  simp at this
  omega
/-- at the end all numbers are found -/
theorem Bf.fin {q : List Nat} {w : Nat} {row : Nat → Int32} {dn : Nat → Nat} (B : Bf n nb goal op q q.length w row dn) (hnb : ∀ c w d, c < n → w < 4 → nb c w = some d → d < n ∧ op d) (hsym : ∀ c w d, op c → c < n → w < 4 → nb c w = some d → ∃ w', w' < 4 ∧ nb d w' = some c) (c : Nat) (hc : c < n) :
    (row c = -1 ∧ ∀ k, ¬ Rch n nb goal op k c) ∨ ∃ d, d < n ∧ row c = nI d ∧ Num n nb goal op c d := by
  obtain ⟨b1, b2, b3, b4, b5, b6, b7, b8, b9, b10⟩ := id B
  have key : ∀ k c, c < n → Rch n nb goal op k c → c ∈ q ∧ dn c ≤ k := by
    intro k
    induction k with
    | zero =>
      intro c hc h
      obtain ⟨g1, g2⟩ := b9 c hc h.2
      exact ⟨g1, by omega⟩
    | succ k ih =>
      intro c hc h
      rcases h with h | ⟨ho, w', d, hw', hd, h⟩
      · obtain ⟨g1, g2⟩ := ih c hc h
        exact ⟨g1, by omega⟩
      · obtain ⟨g1, g2⟩ := ih d (hnb _ _ _ hc hw' hd).1 h
        obtain ⟨w2, hw2, hs⟩ := hsym c w' d ho hc hw' hd
        obtain ⟨i, hi, ei⟩ := mem_getD g1
        rw [← ei] at hs
        obtain ⟨g3, g4⟩ := b8 i w2 hi (Or.inl hi) hw2 c hs
        rw [ei] at g4
        exact ⟨g3, by omega⟩
  by_cases hm : c ∈ q
  · right
    obtain ⟨i, hi, ei⟩ := mem_getD hm
    have h5 := b5 i hi
    rw [ei] at h5
    have := B.len
    refine ⟨dn c, by omega, (b4 c hm).1, (b4 c hm).2, fun k hk hr => ?_⟩
    have := (key k c hc hr).2
    omega
  · exact Or.inl ⟨b3 c hc hm, fun k hr => hm (key k c hc hr).1⟩
end BFS
