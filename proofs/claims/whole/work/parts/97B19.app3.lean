/-! an entry is written behind the last -/
theorem aWholes_all : ∀ (es : List AE) (n : Int), (∀ e ∈ es, 0 ≤ aEsz e) → (es.map aEsz).sum ≤ n → aWholes es n = es.length := by
  intro es
  induction es with
  | nil => exact fun _ _ _ => rfl
  | cons e r ih =>
    intro n h1 h2
    rw [List.map_cons, List.sum_cons] at h2
    have hr : 0 ≤ (r.map aEsz).sum := by
      clear h2 ih
      have : ∀ x ∈ r, 0 ≤ aEsz x := fun x hx => h1 x (List.mem_cons_of_mem _ hx)
      clear h1
      induction r with
      | nil => exact Int.le_refl _
      | cons y r ih =>
        rw [List.map_cons, List.sum_cons]
        have := ih (fun x hx => this x (List.mem_cons_of_mem _ hx))
        have := this
        have h3 := ‹∀ x ∈ y :: r, 0 ≤ aEsz x› y List.mem_cons_self
        omega
    unfold aWholes
    rw [if_pos (by omega), ih (n - aEsz e) (fun x hx => h1 x (List.mem_cons_of_mem _ hx)) (by omega)]
    rfl
theorem eFrame_l {K : List AK} {e : AE} : (eFrame K e).length = 25 + (eCon K e).length := by
  unfold eFrame
  simp [a4]
  omega
theorem aEsz_l {K : List AK} {e : AE} (h : wfE K e) (h2 : (eCon K e).length ≤ 256) : aEsz e = ((eFrame K e).length : Int) := by
  rw [eFrame_l]
  unfold aEsz
  rw [h.1, Int32.toInt_ofNat_of_lt (by omega)]
  omega
theorem frames_l {K : List AK} : ∀ es : List AE, (∀ e ∈ es, wfE K e ∧ (eCon K e).length ≤ 256) → (es.map aEsz).sum = ((es.flatMap (eFrame K)).length : Int) := by
  intro es
  induction es with
  | nil => intro _; rfl
  | cons e r ih =>
    intro h
    have he := h e List.mem_cons_self
    rw [List.map_cons, List.sum_cons, List.flatMap_cons, List.length_append, ih (fun x hx => h x (List.mem_cons_of_mem _ hx)), aEsz_l he.1 he.2]
    omega
theorem aWhole_sub {F : AF} : ∀ e ∈ aWhole F, e ∈ F.2.1 := fun e he => List.mem_of_mem_take he
/-- a file whose bytes end where its last whole entry ends -/
def exF (F : AF) : Prop := (F.1 1).toInt = aFrame F.2.1 (aWhole F).length
theorem exF_sum {F : AF} (h : exF F) : (F.1 1).toInt = 24 + ((aWhole F).map aEsz).sum := by
  unfold exF aFrame at h
  rw [h]
  congr 2
  unfold aWhole
  rw [List.length_take, Nat.min_eq_left (aWholes_le _ _)]
def aPlus (F : AF) (e : AE) : AF := (aU F.1 1 (F.1 1 + 25 + e.2.2.1), aWhole F ++ [e], F.2.2)
theorem aPlus_sz {K : List AK} {F : AF} {e : AE} {S : Nat} (hS : F.1 1 = Int32.ofNat S) (hS2 : S ≤ 14000) (he : wfE K e) (he2 : (eCon K e).length ≤ 256) : (aPlus F e).1 1 = Int32.ofNat (S + 25 + (eCon K e).length) := by
  show F.1 1 + 25 + e.2.2.1 = _
  rw [hS, he.1, Int32.ofNat_add, Int32.ofNat_add]
  rfl
theorem aPlus_w {K : List AK} {F : AF} {e : AE} {S : Nat} (hS : F.1 1 = Int32.ofNat S) (hS2 : S ≤ 14000) (hx : exF F) (hw : ∀ x ∈ F.2.1, wfE K x ∧ (eCon K x).length ≤ 256) (he : wfE K e) (he2 : (eCon K e).length ≤ 256) : aWhole (aPlus F e) = aWhole F ++ [e] ∧ exF (aPlus F e) := by
  have hsum := exF_sum hx
  rw [hS, Int32.toInt_ofNat_of_lt (by omega)] at hsum
  have hsz := aPlus_sz hS hS2 he he2
  have hes : aEsz e = 25 + ((eCon K e).length : Int) := by
    unfold aEsz
    rw [he.1, Int32.toInt_ofNat_of_lt (by omega)]
  have hpos : ∀ x ∈ aWhole F ++ [e], 0 ≤ aEsz x := by
    intro x hx
    rcases List.mem_append.mp hx with z | z
    · have := hw x (aWhole_sub x z)
      have := aEsz_pos this.1 this.2
      omega
    · rw [List.mem_singleton.mp z]
      omega
  have hs2 : ((aWhole F ++ [e]).map aEsz).sum = (S : Int) + 25 + (eCon K e).length - 24 := by
    rw [List.map_append, List.sum_append, List.map_cons, List.map_nil, List.sum_cons, List.sum_nil]
    omega
  have hz : ((aPlus F e).1 1).toInt - 24 = (S : Int) + 25 + (eCon K e).length - 24 := by
    rw [hsz, Int32.toInt_ofNat_of_lt (by omega)]
    omega
  have hW : aWhole (aPlus F e) = aWhole F ++ [e] := by
    conv => lhs; unfold aWhole
    rw [hz]
    show (aWhole F ++ [e]).take (aWholes (aWhole F ++ [e]) _) = _
    rw [aWholes_all _ _ hpos (by omega), List.take_length]
  refine ⟨hW, ?_⟩
  unfold exF aFrame
  rw [hW]
  show _ = 24 + (((aWhole F ++ [e]).take (aWhole F ++ [e]).length).map aEsz).sum
  rw [List.take_length, hs2, hsz, Int32.toInt_ofNat_of_lt (by omega)]
  omega
theorem fBy_4 {K : List AK} {f : Nat} {F : AF} (hf : 4 ≤ f) : fBy K f F = aHead (F.1 2) (F.1 3) ++ F.2.1.flatMap (eFrame K) := by
  unfold fBy aHead
  rw [if_neg (by omega), if_neg (by omega)]
/-- the bytes of the whole entries are the first of all -/
theorem fBy_w {K : List AK} {f S : Nat} {F : AF} (hf : 4 ≤ f) (hS : F.1 1 = Int32.ofNat S) (hS2 : S ≤ 14000) (hx : exF F) (hw : ∀ x ∈ F.2.1, wfE K x ∧ (eCon K x).length ≤ 256) : (aHead (F.1 2) (F.1 3) ++ (aWhole F).flatMap (eFrame K)).length = S ∧ ∃ r, fBy K f F = (aHead (F.1 2) (F.1 3) ++ (aWhole F).flatMap (eFrame K)) ++ r := by
  have hsum := exF_sum hx
  rw [hS, Int32.toInt_ofNat_of_lt (by omega), frames_l (K := K) _ (fun e he => hw e (aWhole_sub e he))] at hsum
  refine ⟨?_, (F.2.1.drop (aWholes F.2.1 ((F.1 1).toInt - 24))).flatMap (eFrame K), ?_⟩
  · rw [List.length_append, aHead_l]
    omega
  · rw [fBy_4 hf, List.append_assoc, ← List.flatMap_append]
    congr 2
    exact (List.take_append_drop _ _).symm
theorem chOK_plus {fc fc' : Nat → AF} {g : Nat} {e : Int} : ∀ (c : List Nat) (n : Int), (∀ x ∈ c, x ≠ g) → (∀ x, x ≠ g → fc' x = fc x) → (fc' g).1 0 = 1 → (fc' g).1 2 = (fc g).1 2 → exF (fc' g) → (aWhole (fc' g)).length = (aWhole (fc g)).length + 1 → chOK fc e n (c ++ [g]) → chOK fc' (e + 1) n (c ++ [g]) := by
  intro c
  induction c with
  | nil =>
    intro n hc hf q0 q2 qx qw h
    obtain ⟨h1, h2, h3, h4, h5, h6⟩ := h
    refine ⟨h1, h2, q0, by rw [q2]; exact h4, qx, ?_⟩
    have h6 : n + (aWhole (fc g)).length = e := h6
    show n + ((aWhole (fc' g)).length : Int) = e + 1
    omega
  | cons f r ih =>
    intro n hc hf q0 q2 qx qw h
    obtain ⟨h1, h2, h3, h4, h5, h6⟩ := h
    have ef := hf f (hc f List.mem_cons_self)
    refine ⟨h1, h2, by rw [ef]; exact h3, by rw [ef]; exact h4, by rw [ef]; exact h5, ?_⟩
    rw [ef]
    exact ih _ (fun x hx => hc x (List.mem_cons_of_mem _ hx)) hf q0 q2 qx qw h6
theorem chOK_end {fc : Nat → AF} {g : Nat} {e : Int} : ∀ (c : List Nat) (n : Int), chOK fc e n (c ++ [g]) → ((fc g).1 2).toInt + (aWhole (fc g)).length = e := by
  intro c
  induction c with
  | nil =>
    intro n h
    obtain ⟨h1, h2, h3, h4, h5, h6⟩ := h
    have h6 : n + (aWhole (fc g)).length = e := h6
    omega
  | cons f r ih =>
    intro n h
    exact ih _ h.2.2.2.2.2
/-- the state behind an append, but for the code and the soil -/
def aApp3 (a : AA) (s g : Nat) (e : AE) : AA := aI (aLgS (aPut a s g (aPlus (aFc a s g) e)) s (aLg a s ++ [e])) 56 s (aLast a s + 1)
theorem aFc_app3 {a : AA} {s g t x : Nat} {e : AE} : aFc (aApp3 a s g e) t x = if t = s ∧ x = g then aPlus (aFc a s g) e else aFc a t x := aFc_put
theorem aLg_app3 {a : AA} {s g t : Nat} {e : AE} : aLg (aApp3 a s g e) t = if t = s then aLg a s ++ [e] else aLg a t := by
  show (if t = s then aLg a s ++ [e] else aLg a t) = _
  rfl
theorem aS_app3 {a : AA} {s g f i : Nat} {e : AE} : aS (aApp3 a s g e) f i = if f = 56 ∧ i = s then aLast a s + 1 else aS a f i := rfl
theorem WLg_app3 {a : AA} {s g t : Nat} {e : AE} (w : ∀ t, t < 7 → WLg a t) (ht : t < 7) (hs : s < 7) (h1 : (aLg a s).length < 300) (h2 : (aLast a s).toInt + 1 < 1073741824) : WLg (aApp3 a s g e) t := by
  have w' := w t ht
  unfold WLg aBase aLast at w' ⊢
  rw [aLg_app3, aS_app3, aS_app3, if_neg (by omega)]
  by_cases q : t = s
  · subst q
    rw [if_pos ⟨rfl, rfl⟩, if_pos rfl, List.length_append]
    obtain ⟨w1, w2, w3, w4⟩ := w'
    have : (aLast a t + 1).toInt = (aLast a t).toInt + 1 := i_succ (by omega)
    unfold aLast at this h2
    show _ ∧ (aS a 56 t + 1).toInt = _ ∧ _ ∧ (aS a 56 t + 1).toInt < _
    rw [this]
    simp
    omega
  · rw [if_neg (fun z => q z.2), if_neg q]
    exact w'
theorem WCh_app3 {K : List AK} {a : AA} {s g S : Nat} {c : List Nat} {e : AE} (wl : WLg a s) (h : WCh a s) (hc : aCh a s = c ++ [g]) (hS : (aFc a s g).1 1 = Int32.ofNat S) (hS2 : S ≤ 14000) (hw : ∀ x ∈ (aFc a s g).2.1, wfE K x ∧ (eCon K x).length ≤ 256) (he : wfE K e) (he2 : (eCon K e).length ≤ 256) (h2 : (aLast a s).toInt + 1 < 1073741824) : WCh (aApp3 a s g e) s := by
  obtain ⟨c1, c2, c3⟩ := h
  obtain ⟨n, n1, n2, n3⟩ := c3.resolve_left (fun z => by
    rw [hc] at z
    exact absurd z.1 (by simp))
  have hg := chOK_mem _ _ n3 g (by rw [hc]; simp)
  have hx : exF (aFc a s g) := hg.2.2.2.1
  obtain ⟨p1, p2⟩ := aPlus_w hS hS2 hx hw he he2
  have ef : ∀ x, aFc (aApp3 a s g e) s x = if x = g then aPlus (aFc a s g) e else aFc a s x := by
    intro x
    rw [aFc_app3]
    by_cases q : x = g
    · rw [if_pos ⟨rfl, q⟩, if_pos q]
    · rw [if_neg (fun z => q z.2), if_neg q]
  have ng : ∀ x ∈ c, x ≠ g := by
    rw [hc] at c1
    intro x hx z
    exact (List.nodup_append.mp c1).2.2 x hx g (by simp) z
  refine ⟨c1, fun x x1 x2 x3 => ?_, Or.inr ⟨n, n1, n2, ?_⟩⟩
  · rw [ef] at x3
    by_cases q : x = g
    · show x ∈ aCh a s
      rw [q, hc]
      simp
    · rw [if_neg q] at x3
      exact c2 x x1 x2 x3
  · have eL : (aLast (aApp3 a s g e) s).toInt + 1 = (aLast a s).toInt + 1 + 1 := by
      show (aS (aApp3 a s g e) 56 s).toInt + 1 = _
      rw [aS_app3, if_pos ⟨rfl, rfl⟩, i_succ (by omega)]
    rw [eL]
    show chOK _ _ n (aCh a s)
    rw [hc] at n3 ⊢
    refine chOK_plus c n ng (fun x hx => by rw [ef, if_neg hx]) ?_ ?_ ?_ ?_ n3
    · rw [ef, if_pos rfl]
      exact hg.2.2.1
    · rw [ef, if_pos rfl]
      rfl
    · rw [ef, if_pos rfl]
      exact p2
    · rw [ef, if_pos rfl, p1, List.length_append]
      rfl
