theorem chOK_split {fc : Nat → AF} {e : Int} : ∀ (p r : List Nat) (n : Int), chOK fc e n (p ++ r) → ∃ m, chOK fc m n p ∧ chOK fc e m r := by
  intro p
  induction p with
  | nil => exact fun r n h => ⟨n, rfl, h⟩
  | cons f p ih =>
    intro r n h
    obtain ⟨h1, h2, h3, h4, h5, h6⟩ := h
    obtain ⟨m, m1, m2⟩ := ih r _ h6
    exact ⟨m, ⟨h1, h2, h3, h4, h5, m1⟩, m2⟩
/-- as many whole entries as the size holds -/
theorem aWholes_k : ∀ (es : List AE) (k : Nat), k ≤ es.length → (∀ e ∈ es, 25 ≤ aEsz e) → aWholes es ((es.take k).map aEsz).sum = k := by
  intro es
  induction es with
  | nil =>
    intro k hk _
    have : k = 0 := by simpa using hk
    rw [this]
    rfl
  | cons e r ih =>
    intro k hk he
    cases k with
    | zero =>
      have := he e List.mem_cons_self
      show (if aEsz e ≤ 0 then _ else 0) = 0
      rw [if_neg (by omega)]
    | succ k =>
      have hk' : k ≤ r.length := by simpa using hk
      have i := ih k hk' (fun x hx => he x (List.mem_cons_of_mem _ hx))
      rw [List.take_succ_cons, List.map_cons, List.sum_cons]
      have hs : 0 ≤ ((r.take k).map aEsz).sum := by
        have : ∀ l : List AE, (∀ x ∈ l, 25 ≤ aEsz x) → 0 ≤ (l.map aEsz).sum := by
          intro l
          induction l with
          | nil => exact fun _ => Int.le_refl _
          | cons x l ihl =>
            intro hl
            rw [List.map_cons, List.sum_cons]
            have h1 := hl x List.mem_cons_self
            have h2 := ihl (fun y hy => hl y (List.mem_cons_of_mem _ hy))
            omega
        exact this _ (fun x hx => he x (List.mem_cons_of_mem _ (List.mem_of_mem_take hx)))
      show (if aEsz e ≤ aEsz e + ((r.take k).map aEsz).sum then aWholes r (aEsz e + ((r.take k).map aEsz).sum - aEsz e) + 1 else 0) = k + 1
      rw [if_pos (by omega), show aEsz e + ((r.take k).map aEsz).sum - aEsz e = ((r.take k).map aEsz).sum by omega, i]
theorem aFrame_mono {es : List AE} {k l : Nat} (he : ∀ e ∈ es, 25 ≤ aEsz e) (h : k ≤ l) : 24 ≤ aFrame es k ∧ aFrame es k ≤ aFrame es l := by
  have pos : ∀ m : List AE, (∀ x ∈ m, 25 ≤ aEsz x) → 0 ≤ (m.map aEsz).sum := by
    intro m
    induction m with
    | nil => exact fun _ => Int.le_refl _
    | cons x m ih =>
      intro hm
      rw [List.map_cons, List.sum_cons]
      have h1 := hm x List.mem_cons_self
      have h2 := ih (fun y hy => hm y (List.mem_cons_of_mem _ hy))
      omega
  have e1 : es.take l = es.take k ++ (es.drop k).take (l - k) := by
    rw [← List.take_append_drop k (es.take l), List.take_take, Nat.min_eq_left h, List.drop_take]
  have p1 := pos (es.take k) (fun x hx => he x (List.mem_of_mem_take hx))
  have p2 := pos ((es.drop k).take (l - k)) (fun x hx => he x (List.mem_of_mem_drop (List.mem_of_mem_take hx)))
  unfold aFrame
  rw [e1, List.map_append, List.sum_append]
  omega
/-- which files begin ahead of a place -/
theorem cut_filter {a : AA} {s : Nat} {n : Int32} {pre rest : List Nat} (h1 : ∀ x ∈ pre, (aFc a s x).1 2 < n) (h2 : ∀ x ∈ rest, n ≤ (aFc a s x).1 2) : aFrom a s n (pre ++ rest) = rest ∧ aBelow a s n (pre ++ rest) = pre := by
  have d1 : ∀ x ∈ pre, decide (n ≤ (aFc a s x).1 2) = false := fun x hx => decide_eq_false (Int32.not_le.mpr (h1 x hx))
  have d2 : ∀ x ∈ rest, decide (n ≤ (aFc a s x).1 2) = true := fun x hx => decide_eq_true (h2 x hx)
  unfold aFrom aBelow
  rw [List.filter_append, List.filter_append]
  have f1 : pre.filter (fun f => decide (n ≤ (aFc a s f).1 2)) = [] := List.filter_eq_nil_iff.mpr (fun x hx => by rw [d1 x hx]; decide)
  have f2 : rest.filter (fun f => decide (n ≤ (aFc a s f).1 2)) = rest := List.filter_eq_self.mpr d2
  have f3 : pre.filter (fun f => !decide (n ≤ (aFc a s f).1 2)) = pre := List.filter_eq_self.mpr (fun x hx => by rw [d1 x hx]; rfl)
  have f4 : rest.filter (fun f => !decide (n ≤ (aFc a s f).1 2)) = [] := List.filter_eq_nil_iff.mpr (fun x hx => by rw [d2 x hx]; decide)
  rw [f1, f2, f3, f4]
  exact ⟨rfl, List.append_nil _⟩
/-- a cut at the size is nothing -/
theorem aCut_same {a : AA} {s f : Nat} (h43 : aS a 43 (16 * s + f) ≤ (aFc a s f).1 1) : aCut a s f ((aFc a s f).1 1) = a := by
  have e1 : aMin ((aFc a s f).1 1) ((aFc a s f).1 1) = (aFc a s f).1 1 := if_pos (Int32.le_refl _)
  have e2 : aMin (aS a 43 (16 * s + f)) ((aFc a s f).1 1) = aS a 43 (16 * s + f) := if_pos h43
  have e3 : aU (aFc a s f).1 1 ((aFc a s f).1 1) = (aFc a s f).1 := by
    funext j
    show (if j = 1 then _ else _) = _
    by_cases q : j = 1
    · rw [if_pos q, q]
    · rw [if_neg q]
  have e4 : aPut a s f ((aFc a s f).1, (aFc a s f).2) = a := by
    have : aU (aFc a) s (aU (aFc a s) f (aFc a s f)) = aFc a := by
      funext t x
      show (if t = s then (fun y => if y = f then aFc a s f else aFc a s y) else aFc a t) x = aFc a t x
      by_cases q : t = s
      · rw [if_pos q, q]
        show (if x = f then _ else _) = _
        by_cases q2 : x = f
        · rw [if_pos q2, q2]
        · rw [if_neg q2]
      · rw [if_neg q]
    exact (congrArg (aFcW a) this).trans rfl
  unfold aCut
  dsimp only
  rw [e1, e2, e3, e4]
  exact aI_same rfl
