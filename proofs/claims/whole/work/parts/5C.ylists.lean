/-! lists of letters: growth, and all members' promises -/
section YC2
variable {E : CE} {g : CG} {c : CS} {h : xH} {cl i f : Nat}
theorem y3 {n : Nat} (hk : cK cl f = 5) (ho : cob c cl i) (hp : 0 < cL c cl i f) : clv0 c (3, cl, i, f) := ⟨ho, by
  rw [if_neg (by show ¬ (3 = 0); omega), if_neg (by show ¬ (3 = 1); omega), if_neg (by show ¬ (3 = 2); omega)]
  exact ⟨rfl, hk, hp⟩⟩
theorem y_cad2 {g : CG} (hk : cK cl f = 5) : cad E g (2, cl, i, f) = car E g cl i f := by
  unfold cad car
  rw [if_neg (by show ¬ (2 = 0); omega), if_neg (by show ¬ (2 = 1); omega), if_pos rfl, if_neg (by show ¬ cK cl f = 3; omega)]
theorem y_cad3 {g : CG} : cad E g (3, cl, i, f) = g cl i f := by
  unfold cad
  rw [if_neg (by show ¬ (3 = 0); omega), if_neg (by show ¬ (3 = 1); omega), if_neg (by show ¬ (3 = 2); omega)]
/-- a list gets more places -/
theorem CRep_up {l : List Nat} {n : Nat} (hc : CRep E g c h) (hk : cK cl f = 5) (ho : cob c cl i) (hn : 0 < n ∧ n ≤ 200000) (hl : l.length ≤ n) (hlt : ∀ a ∈ l, clt c a = true) (m0 : Int32) :
    CRep E (cgs g cl i f h.2.1) (csS c cl i f l n ((cT c).1 + 1, (cT c).2 + n)) (yZ (yUp (yZ h (car E g cl i f) (yE E g c cl i f) m0 (cS c cl i f).length (cL c cl i f) (cev c cl i f)) n) (car E g cl i f) h.2.1 (cI c cl i f 0 + 1) l.length n (cev (csS c cl i f l n ((cT c).1 + 1, (cT c).2 + n)) cl i f)) := by
  obtain ⟨⟨hb0, hen, hne⟩, hbl, hel⟩ := y_things hc hk ho
  obtain ⟨a1, a2, a3⟩ := csS_at (c := c) (cl := cl) (i := i) (f := f) (l := l) (n := n) (T := ((cT c).1 + 1, (cT c).2 + n))
  generalize hc' : csS c cl i f l n ((cT c).1 + 1, (cT c).2 + n) = c' at a1 a2 a3
  have sI : ∀ a b x y, ¬ (a = cl ∧ b = i ∧ x = f) → cI c' a b x y = cI c a b x y := fun a b x y q => by rw [← hc']; exact csS_I q
  have sL : ∀ a b x, ¬ (a = cl ∧ b = i ∧ x = f) → cL c' a b x = cL c a b x := fun a b x q => by rw [← hc']; exact csS_L q
  have sS : ∀ a b x, ¬ (a = cl ∧ b = i ∧ x = f) → cS c' a b x = cS c a b x := fun a b x q => by rw [← hc']; exact csS_S q
  have sJ : cJ c' = cJ c := by rw [← hc']; rfl
  have st : clt c' = clt c := by rw [← hc']; rfl
  have sT : cT c' = ((cT c).1 + 1, (cT c).2 + n) := by rw [← hc']; rfl
  have sg : ∀ a b x, ¬ (a = cl ∧ b = i ∧ x = f) → cgs g cl i f h.2.1 a b x = g a b x := fun a b x q => by unfold cgs; rw [if_neg q]
  have sg1 : cgs g cl i f h.2.1 cl i f = h.2.1 := by unfold cgs; rw [if_pos ⟨rfl, rfl, rfl⟩]
  have hbn : car E g cl i f ≠ h.2.1 := by omega
  have hcb : car E (cgs g cl i f h.2.1) cl i f = car E g cl i f := by
    unfold car
    rw [if_neg (by omega), if_neg (by omega)]
  -- things of the new memory
  have hold : ∀ m, clv0 c' m → m = (3, cl, i, f) ∨ clv0 c m := by
    intro m hm
    by_cases q : m = (3, cl, i, f)
    · exact Or.inl q
    · right
      obtain ⟨k, a, b, x⟩ := m
      obtain ⟨h1, h2⟩ := hm
      refine ⟨(cob_of st).mp h1, ?_⟩
      dsimp only at h2 ⊢
      split at h2
      next z => rw [if_pos z]; exact h2
      next z =>
        rw [if_neg z]
        split at h2
        next z1 => rw [if_pos z1]; exact h2
        next z1 =>
          rw [if_neg z1]
          split at h2
          next z2 => rw [if_pos z2]; exact h2
          next z2 =>
            rw [if_neg z2]
            obtain ⟨e1, e2, e3⟩ := h2
            refine ⟨e1, e2, ?_⟩
            rw [sL a b x (fun z => q (by obtain ⟨rfl, rfl, rfl⟩ := z; rw [e1]))] at e3
            exact e3
  have hcad : ∀ m, clv0 c m → m ≠ (3, cl, i, f) → cad E (cgs g cl i f h.2.1) m = cad E g m := by
    intro m hm q
    by_cases q2 : m = (2, cl, i, f)
    · subst q2; rw [y_cad2 hk, y_cad2 hk, hcb]
    · exact (y_ccell (E := E) (c := c) (c' := c') (g' := cgs g cl i f h.2.1) hk sI sJ sL sS sg hm q2 q).2
  refine ⟨fun m hm => ?_, fun a b ha hb he => ?_, fun a x hx => ?_, ?_, fun a b x y hy => ?_, hc.2.2.2.2.2.1, fun a b x hob hkx => ?_⟩
  · by_cases q3 : m = (3, cl, i, f)
    · subst q3
      rw [y_cad3, sg1, yZ_e hbn]
      refine ⟨?_, Nat.lt_succ_self _⟩
      unfold ccell
      rw [if_neg (by show ¬ (3 = 0); omega), if_neg (by show ¬ (3 = 1); omega), if_neg (by show ¬ (3 = 2); omega)]
      exact Prod.ext rfl (Prod.ext a2.symm rfl)
    · have hm' := (hold m hm).resolve_left q3
      rw [hcad m hm' q3]
      have hlt' := (hc.1 m hm').2
      refine ⟨?_, Nat.lt_succ_of_lt hlt'⟩
      by_cases q2 : m = (2, cl, i, f)
      · subst q2
        rw [y_cad2 hk, yZ_b]
        unfold ccell
        rw [if_neg (by show ¬ (2 = 0); omega), if_neg (by show ¬ (2 = 1); omega), if_pos rfl]
        refine Prod.ext rfl (Prod.ext rfl ?_)
        funext y
        unfold clv yV
        dsimp only
        rw [a1, a2, a3, sg1, if_neg (show ¬ n = 0 by omega)]
      · have n1 : cad E g m ≠ car E g cl i f := fun z => q2 (hc.2.1 _ _ hm' (clist_lv ho hk) (by rw [y_cad2 hk]; exact z))
        have n2 : cad E g m ≠ h.2.1 := by omega
        rw [yZ_o n1 n2]
        show (yZ h _ _ _ _ _ _).1 _ = _
        have ec := (y_ccell (E := E) (c := c) (c' := c') (g' := cgs g cl i f h.2.1) hk sI sJ sL sS sg hm' q2 q3).1
        rw [ec, ← (hc.1 m hm').1]
        by_cases q : cad E g m = yE E g c cl i f
        · rw [q, yZ_e hne, hen]
        · exact yZ_o n1 q
  · by_cases qa : a = (3, cl, i, f)
    · by_cases qb : b = (3, cl, i, f)
      · rw [qa, qb]
      · exfalso
        have hb' := (hold b hb).resolve_left qb
        rw [qa, y_cad3, sg1, hcad b hb' qb] at he
        have := (hc.1 b hb').2
        omega
    · have ha' := (hold a ha).resolve_left qa
      rw [hcad a ha' qa] at he
      by_cases qb : b = (3, cl, i, f)
      · exfalso
        rw [qb, y_cad3, sg1] at he
        have := (hc.1 a ha').2
        omega
      · have hb' := (hold b hb).resolve_left qb
        rw [hcad b hb' qb] at he
        exact hc.2.1 a b ha' hb' he
  · obtain ⟨t1, t2, t3⟩ := hc.2.2.1 a x hx
    have n1 : a ≠ car E g cl i f := fun z => t3 _ (clist_lv ho hk) (by rw [y_cad2 hk]; exact z.symm)
    have n2 : a ≠ h.2.1 := by omega
    refine ⟨?_, Nat.lt_succ_of_lt t2, fun m hm => ?_⟩
    · rw [yZ_o n1 n2]
      show (yZ h _ _ _ _ _ _).1 _ = _
      by_cases q : a = yE E g c cl i f
      · rw [q, yZ_e hne, ← hen, ← q]; exact t1
      · rw [yZ_o n1 q]; exact t1
    · by_cases q3 : m = (3, cl, i, f)
      · rw [q3, y_cad3, sg1]; omega
      · have hm' := (hold m hm).resolve_left q3
        rw [hcad m hm' q3]
        exact t3 m hm'
  · show (h.2.1 + 1, h.2.2 + n) = cT c'
    rw [sT, ← hc.2.2.2.1]
  · rw [st]
    by_cases q : a = cl ∧ b = i ∧ x = f
    · obtain ⟨rfl, rfl, rfl⟩ := q
      rw [a3] at hy
      exact hlt y hy
    · rw [sS a b x q] at hy
      exact hc.2.2.2.2.1 a b x y hy
  · have hob := (cob_of st).mp hob
    by_cases q : a = cl ∧ b = i ∧ x = f
    · obtain ⟨rfl, rfl, rfl⟩ := q
      rw [a2, a3]; exact ⟨hl, hn.2⟩
    · rw [sS a b x q, sL a b x q]
      exact hc.2.2.2.2.2.2 a b x hob hkx
theorem y_cev {l : List Nat} {n : Nat} {T : Nat × Nat} (j : Nat) : cev (csS c cl i f l n T) cl i f j = match l[j]? with
  | some a => .ref a
  | none => .null := by
  unfold cev
  rw [csS_at.2.2]
  cases l[j]? <;> rfl
variable {pF : Nat → List Value → xH → Option (Option Value × xH)} {d : Nat}
theorem y_same {L : List Nat} {A : Nat → Value} (hA : ∀ j, A j = match L[j]? with
  | some a => .ref a
  | none => .null) {n : Nat} {T : Nat × Nat} : A = cev (csS c cl i f L n T) cl i f := by
  funext j
  rw [y_cev, hA]
theorem y_lcSz {eD : Nat} (hB : yB eD pF) : lcSz pF (d + 9) := by
  intro E g c cl i f hk ho h hc
  obtain ⟨hL, -, -⟩ := y_things hc hk ho
  exact ⟨g, h, hc, fun _ _ => rfl, cMon_r, y_size (d := d + 8) hB.1 hL⟩
theorem y_lcEmp {eD : Nat} (hB : yB eD pF) : lcEmp pF (d + 9) := by
  intro E g c cl i f hk ho h hc
  obtain ⟨hL, -, -⟩ := y_things hc hk ho
  have hb := hc.2.2.2.2.2.2 cl i f ho hk
  refine ⟨g, h, hc, fun _ _ => rfl, cMon_r, ?_⟩
  have := y_emp (d := d + 8) hB.1 hL (by omega)
  unfold clemp
  exact this
theorem y_lcGet {eD : Nat} (hB : yB eD pF) : lcGet pF (d + 9) := by
  intro E g c cl i f j a hk ho hx h hc
  obtain ⟨hL, -, -⟩ := y_things hc hk ho
  have hb := hc.2.2.2.2.2.2 cl i f ho hk
  unfold clget at hx
  split at hx
  next => cases hx
  next hj =>
    obtain ⟨hl, he⟩ := List.getElem?_eq_some_iff.mp hx
    refine ⟨g, h, hc, fun _ _ => rfl, cMon_r, ?_⟩
    refine y_get (d := d + 6) hB.1 hL hb.1 (by omega) hj hl ?_
    unfold cev
    rw [hx]
theorem y_lcClr {eD : Nat} (hB : yB eD pF) : lcClr pF (d + 9) := by
  intro E g c cl i f hk ho h hc
  obtain ⟨hL, -, -⟩ := y_things hc hk ho
  have hb := hc.2.2.2.2.2.2 cl i f ho hk
  have hin := CRep_in (l := []) hc hk ho (Nat.zero_le _) (fun a ha => absurd ha List.not_mem_nil)
  refine ⟨g, _, hin, fun _ _ => rfl, fun a ha => ha, ?_⟩
  have := y_clear (d := d + 8) hB.1 (h := h) (m := cI c cl i f 0) (A := cev c cl i f) hL.2.2 hb.1 (by omega)
  rw [← yZ_of hL] at this
  rw [← y_same (c := c) (cl := cl) (i := i) (f := f) (L := []) (A := fun j => if j < (cS c cl i f).length then .null else cev c cl i f j) (fun j => ?_)]
  · exact this
  · by_cases q : j < (cS c cl i f).length
    · simp [q]
    · simp only [q, if_false]
      unfold cev
      rw [List.getElem?_eq_none (by omega)]
      simp
theorem y_lcRem {eD : Nat} (hB : yB eD pF) : lcRem pF (d + 9) := by
  intro E g c cl i f j a c' hk ho hx h hc
  obtain ⟨hL, -, -⟩ := y_things hc hk ho
  have hb := hc.2.2.2.2.2.2 cl i f ho hk
  obtain ⟨hA, -⟩ := y_lets hc hk ho
  unfold clrem at hx
  obtain ⟨a1, e1, hx⟩ := Option.bind_eq_some_iff.mp hx
  cases hx
  unfold clget at e1
  split at e1
  next => cases e1
  next hj =>
    obtain ⟨hl, he⟩ := List.getElem?_eq_some_iff.mp e1
    obtain ⟨n, hn⟩ : ∃ n, (cS c cl i f).length = n + 1 := ⟨(cS c cl i f).length - 1, by omega⟩
    have hlen : ((cS c cl i f).eraseIdx j.toNatClampNeg).length = n := by rw [List.length_eraseIdx_of_lt hl, hn]; rfl
    have hin := CRep_in (l := (cS c cl i f).eraseIdx j.toNatClampNeg) hc hk ho (by omega) (fun x hx => hc.2.2.2.2.1 cl i f x (List.mem_of_mem_eraseIdx hx))
    refine ⟨g, _, hin, fun _ _ => rfl, fun a ha => ha, ?_⟩
    have hv : cev c cl i f j.toNatClampNeg = .ref a := by unfold cev; rw [e1]
    have := y_rem (d := d + 6) hB.1 (h := h) (m := cI c cl i f 0) (A := cev c cl i f) hL.2.2 (n := n) (cap := cL c cl i f) (by omega) (by omega) hj (by omega) (by rw [← hn]; exact hA) hv
    rw [← hn, ← yZ_of hL] at this
    rw [hlen]
    rw [← y_same (c := c) (cl := cl) (i := i) (f := f) (L := (cS c cl i f).eraseIdx j.toNatClampNeg) (A := fun q => if q = n then .null else if j.toNatClampNeg ≤ q ∧ q < n then cev c cl i f (q + 1) else cev c cl i f q) (fun q => ?_)]
    · exact this
    · rw [List.getElem?_eraseIdx]
      by_cases q1 : q < j.toNatClampNeg
      · rw [if_pos q1, if_neg (by omega), if_neg (by omega)]; rfl
      · rw [if_neg q1]
        by_cases q2 : q = n
        · rw [if_pos q2, List.getElem?_eq_none (by omega)]
        · rw [if_neg q2]
          by_cases q3 : q < n
          · rw [if_pos ⟨by omega, q3⟩]; rfl
          · rw [if_neg (by omega), List.getElem?_eq_none (by omega)]
            unfold cev
            rw [List.getElem?_eq_none (by omega)]
theorem clcap_ok {n : Nat} (h : n ≤ 100000) : n < clcap n ∧ clcap n ≤ 200000 := by
  unfold clcap
  split
  · omega
  · split <;> omega
theorem y_full (hc : CRep E g c h) (hk : cK cl f = 5) (ho : cob c cl i) (hq : ¬ 100000 < cL c cl i f) (hq2 : ¬ (cS c cl i f).length < cL c cl i f) : yFull E.2.2.1 h (car E g cl i f) (yE E g c cl i f) (cS c cl i f).length (cL c cl i f) (cev c cl i f) := by
  obtain ⟨hL, hb, he⟩ := y_things hc hk ho
  have hbd := hc.2.2.2.2.2.2 cl i f ho hk
  have e1 : (cS c cl i f).length = cL c cl i f := by omega
  refine ⟨e1, hb, he, by omega, ?_⟩
  by_cases q : cL c cl i f = 0
  · left; exact ⟨q, by unfold yE; rw [if_pos q]⟩
  · right
    refine ⟨by omega, ?_⟩
    rw [← e1]
    exact (y_lets hc hk ho).1
theorem y_cgsQ {x : Nat} : ∀ y, cQx [cl] y = true → cgs g cl i f x y = g y := fun y hy => cgs_ne g cl i f x y (fun z => by subst z; simp [cQx] at hy)
def yRv : Option Nat → Value
  | some a => .ref a
  | none => .null
theorem cev_R (j : Nat) : cev c cl i f j = yRv (cS c cl i f)[j]? := by
  unfold cev
  cases (cS c cl i f)[j]? <;> rfl
theorem y_sameR {L : List Nat} {A : Nat → Value} (hA : ∀ j, A j = yRv L[j]?) {n : Nat} {T : Nat × Nat} : A = cev (csS c cl i f L n T) cl i f :=
  y_same (fun j => by rw [hA]; cases L[j]? <;> rfl)
theorem y_app1 {v : Nat} (q : Nat) : updV (cev c cl i f) (cS c cl i f).length (.ref v) q = yRv (cS c cl i f ++ [v])[q]? := by
  unfold updV
  by_cases q1 : q = (cS c cl i f).length
  · rw [if_pos q1, q1, List.getElem?_append_right (Nat.le_refl _), Nat.sub_self]; rfl
  · rw [if_neg q1, cev_R]
    by_cases q2 : q < (cS c cl i f).length
    · rw [List.getElem?_append_left q2]
    · rw [List.getElem?_eq_none (by omega), List.getElem?_eq_none (by rw [List.length_append]; show (cS c cl i f).length + 1 ≤ q; omega)]
theorem y_old (q : Nat) : va_cpy (cev c cl i f) (fun _ => Value.null) 0 0 (cS c cl i f).length q = cev c cl i f q := by
  unfold va_cpy
  by_cases q2 : q < (cS c cl i f).length
  · rw [if_pos ⟨by omega, by omega⟩]
    congr 1
    omega
  · rw [if_neg (by omega), cev_R, List.getElem?_eq_none (by omega)]; rfl
theorem y_inl {v j : Nat} (hj : j ≤ (cS c cl i f).length) (q : Nat) : updV (va_cpy (cev c cl i f) (cev c cl i f) j (j + 1) ((cS c cl i f).length - j)) j (.ref v) q = yRv ((cS c cl i f).take j ++ v :: (cS c cl i f).drop j)[q]? := by
  have ht : ((cS c cl i f).take j).length = j := by rw [List.length_take]; omega
  unfold updV
  by_cases q1 : q = j
  · rw [if_pos q1, List.getElem?_append_right (by omega), ht, q1, Nat.sub_self]; rfl
  · rw [if_neg q1]
    unfold va_cpy
    by_cases q2 : q < j
    · rw [if_neg (by omega), cev_R, List.getElem?_append_left (by omega), List.getElem?_take_of_lt q2]
    · rw [List.getElem?_append_right (by omega), ht]
      obtain ⟨k, hk⟩ : ∃ k, q = j + 1 + k := ⟨q - j - 1, by omega⟩
      rw [show q - j = k + 1 by omega, List.getElem?_cons_succ, List.getElem?_drop]
      by_cases q3 : q < j + 1 + ((cS c cl i f).length - j)
      · rw [if_pos ⟨by omega, q3⟩, show j + (q - (j + 1)) = j + k by omega, cev_R]
      · rw [if_neg (by omega), cev_R, List.getElem?_eq_none (by omega), List.getElem?_eq_none (by omega)]
theorem y_ne (hc : CRep E g c h) (hk : cK cl f = 5) (ho : cob c cl i) {a : Nat} (ha : clt c a = true) : (h.1 a).1 = 9 ∧ a < h.2.1 ∧ a ≠ car E g cl i f ∧ a ≠ yE E g c cl i f := by
  obtain ⟨⟨l1, l2, -⟩, -, -⟩ := y_things hc hk ho
  obtain ⟨t, l⟩ := y_letter hc ha
  refine ⟨t, l, fun z => ?_, fun z => ?_⟩
  · rw [z, l1] at t; cases t
  · rw [z, l2] at t; cases t
theorem y_lcAdd (hB : yB E.2.2.1 pF) : lcAdd E pF (d + 9) := by
  intro E' g c cl i f a c' hE hk ho ha hx h hc
  subst hE
  obtain ⟨hL, -, -⟩ := y_things hc hk ho
  have hb := hc.2.2.2.2.2.2 cl i f ho hk
  obtain ⟨t1, t2, t3, t4⟩ := y_ne hc hk ho ha
  have hlets : ∀ x ∈ cS c cl i f ++ [a], clt c x = true := by
    intro x hx
    rcases List.mem_append.mp hx with q | q
    · exact hc.2.2.2.2.1 cl i f x q
    · rw [List.mem_singleton.mp q]; exact ha
  have hlen : (cS c cl i f ++ [a]).length = (cS c cl i f).length + 1 := by rw [List.length_append]; rfl
  unfold cladd clput at hx
  split at hx
  next => cases hx
  next hq =>
    split at hx
    next hq2 =>
      cases hx
      have hin := CRep_in (l := cS c cl i f ++ [a]) hc hk ho (by omega) hlets
      refine ⟨g, _, hin, fun _ _ => rfl, fun a ha => ha, ?_⟩
      have := y_add2 (d := d + 4) (m := cI c cl i f 0) (n := (cS c cl i f).length) (cap := cL c cl i f) (A := cev c cl i f) hB hL.2.2 (y_add0 (h := h) (v := a) hB (by omega) hL.2.2 (by omega) hq2 t3 t4 t1)
      rw [← yZ_of hL] at this
      rw [hlen, ← y_sameR (c := c) (cl := cl) (i := i) (f := f) (L := cS c cl i f ++ [a]) y_app1]
      exact this
    next hq2 =>
      cases hx
      have hfull := y_full hc hk ho hq hq2
      obtain ⟨c1, c2⟩ := clcap_ok (n := cL c cl i f) (by omega)
      have e1 : (cS c cl i f).length = cL c cl i f := by omega
      have hin := CRep_up (l := cS c cl i f ++ [a]) (n := clcap (cL c cl i f)) hc hk ho ⟨by omega, c2⟩ (by omega) hlets (cI c cl i f 0 + 1)
      refine ⟨_, _, hin, y_cgsQ, fun a ha => ha, ?_⟩
      have := y_add2 (d := d + 4) (m := cI c cl i f 0) (n := (cS c cl i f).length) (cap := cL c cl i f) (A := cev c cl i f) hB hL.2.2 (y_add0g (h := h) (v := a) hB (by omega) hL.2.2 hfull t3 t4 t2 t1)
      rw [← yZ_of hL] at this
      rw [hlen, ← y_sameR (c := c) (cl := cl) (i := i) (f := f) (L := cS c cl i f ++ [a]) (A := updV (va_cpy (cev c cl i f) (fun _ => Value.null) 0 0 (cL c cl i f)) (cS c cl i f).length (.ref a)) (fun q => by rw [← y_app1, ← e1]; unfold updV; rw [y_old])]
      exact this
theorem y_toN {j : Int32} (hj0 : ¬ j < 0) (hj : j.toNatClampNeg ≤ 1000000) : j = Int32.ofNat j.toNatClampNeg := by
  obtain ⟨q1, q2⟩ := y_ofn (n := j.toNatClampNeg) hj
  have e1 := x_ge0 hj0
  have e2 := x_ge0 q2
  rw [q1] at e2
  exact Int32.toInt_inj.mp (e1.trans e2.symm)
theorem y_lcIns (hB : yB E.2.2.1 pF) : lcIns E pF (d + 9) := by
  intro E' g c cl i f j a c' hE hk ho ha hx h hc
  subst hE
  obtain ⟨hL, -, -⟩ := y_things hc hk ho
  have hb := hc.2.2.2.2.2.2 cl i f ho hk
  obtain ⟨t1, t2, t3, t4⟩ := y_ne hc hk ho ha
  obtain ⟨hA, hAl⟩ := y_lets hc hk ho
  unfold clins at hx
  split at hx
  next => cases hx
  next hq0 =>
  have hj0 : ¬ j < 0 := fun z => hq0 (Or.inl z)
  have hj : j.toNatClampNeg ≤ (cS c cl i f).length := by
    have : ¬ (cS c cl i f).length < j.toNatClampNeg := fun z => hq0 (Or.inr z)
    omega
  have hlets : ∀ x ∈ (cS c cl i f).take j.toNatClampNeg ++ a :: (cS c cl i f).drop j.toNatClampNeg, clt c x = true := by
    intro x hx
    rcases List.mem_append.mp hx with q | q
    · exact hc.2.2.2.2.1 cl i f x (List.mem_of_mem_take q)
    · rcases List.mem_cons.mp q with q | q
      · rw [q]; exact ha
      · exact hc.2.2.2.2.1 cl i f x (List.mem_of_mem_drop q)
  have hlen : ((cS c cl i f).take j.toNatClampNeg ++ a :: (cS c cl i f).drop j.toNatClampNeg).length = (cS c cl i f).length + 1 := by
    rw [List.length_append, List.length_cons, List.length_take, List.length_drop]
    omega
  unfold clput at hx
  split at hx
  next => cases hx
  next hq =>
    split at hx
    next hq2 =>
      cases hx
      have hin := CRep_in (l := (cS c cl i f).take j.toNatClampNeg ++ a :: (cS c cl i f).drop j.toNatClampNeg) hc hk ho (by omega) hlets
      refine ⟨g, _, hin, fun _ _ => rfl, fun a ha => ha, ?_⟩
      have := y_ins (d := d + 5) (h := h) (m := cI c cl i f 0) (cap := cL c cl i f) (v := a) hB (by omega) hL.2.2 (by omega) hj hq2 hA t3 t4 t1
      rw [← yZ_of hL, ← y_toN hj0 (by omega)] at this
      rw [hlen, ← y_sameR (c := c) (cl := cl) (i := i) (f := f) (L := (cS c cl i f).take j.toNatClampNeg ++ a :: (cS c cl i f).drop j.toNatClampNeg) (y_inl hj)]
      exact this
    next hq2 =>
      cases hx
      have hfull := y_full hc hk ho hq hq2
      obtain ⟨c1, c2⟩ := clcap_ok (n := cL c cl i f) (by omega)
      have e1 : (cS c cl i f).length = cL c cl i f := by omega
      have hin := CRep_up (l := (cS c cl i f).take j.toNatClampNeg ++ a :: (cS c cl i f).drop j.toNatClampNeg) (n := clcap (cL c cl i f)) hc hk ho ⟨by omega, c2⟩ (by omega) hlets (cI c cl i f 0 + 1)
      refine ⟨_, _, hin, y_cgsQ, fun a ha => ha, ?_⟩
      have := y_insg (d := d + 5) (h := h) (m := cI c cl i f 0) (v := a) hB (by omega) hL.2.2 hfull hj t3 t4 t2 t1 hA hAl
      rw [← yZ_of hL, ← y_toN hj0 (by omega)] at this
      have hold : va_cpy (cev c cl i f) (fun _ => Value.null) 0 0 (cL c cl i f) = cev c cl i f := funext fun q => by rw [← e1]; exact y_old q
      rw [hold] at this
      rw [hlen, ← y_sameR (c := c) (cl := cl) (i := i) (f := f) (L := (cS c cl i f).take j.toNatClampNeg ++ a :: (cS c cl i f).drop j.toNatClampNeg) (y_inl hj)]
      exact this
theorem y_lcAll (hB : yB E.2.2.1 pF) : lcAll E pF := fun d =>
  ⟨y_lcSz hB, y_lcEmp hB, y_lcGet hB, y_lcAdd hB, y_lcIns hB, y_lcRem hB, y_lcClr hB⟩
end YC2
