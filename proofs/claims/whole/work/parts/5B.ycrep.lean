/-! lists of letters in the class's memory: ArrayList's members keep their promises (lcAll) -/
section YC
variable {E : CE} {g : CG} {c : CS} {h : xH} {cl i f : Nat}
def yE (E : CE) (g : CG) (c : CS) (cl i f : Nat) : Nat := if cL c cl i f = 0 then E.2.2.1 else g cl i f
theorem y_things (hc : CRep E g c h) (hk : cK cl f = 5) (ho : cob c cl i) : yL h (car E g cl i f) (yE E g c cl i f) (cI c cl i f 0) (cS c cl i f).length (cL c cl i f) (cev c cl i f) ∧ car E g cl i f < h.2.1 ∧ yE E g c cl i f < h.2.1 := by
  have hlv := clist_lv ho hk
  have ea : cad E g (2, cl, i, f) = car E g cl i f := by
    unfold cad car
    rw [if_neg (by show ¬ (2 = 0); omega), if_neg (by show ¬ (2 = 1); omega), if_pos rfl, if_neg (by show ¬ cK cl f = 3; omega)]
  have hlen := (hc.2.2.2.2.2.2 cl i f ho hk).1
  refine ⟨⟨clist_at hc ho hk, ?_, ?_⟩, by rw [← ea]; exact (hc.1 _ hlv).2, ?_⟩
  · unfold yE
    by_cases q : cL c cl i f = 0
    · rw [if_pos q]
      have h1 := (hc.2.2.1 _ _ hc.2.2.2.2.2.1).1
      rw [h1, q]
      refine Prod.ext rfl (Prod.ext rfl ?_)
      funext j
      unfold cev
      have : cS c cl i f = [] := List.length_eq_zero_iff.mp (by omega)
      rw [this]
      rfl
    · rw [if_neg q]
      have hv : clv0 c (3, cl, i, f) := ⟨ho, by
        rw [if_neg (by show ¬ (3 = 0); omega), if_neg (by show ¬ (3 = 1); omega), if_neg (by show ¬ (3 = 2); omega)]
        exact ⟨rfl, hk, by show 0 < cL c cl i f; omega⟩⟩
      exact (hc.1 _ hv).1
  · unfold yE
    by_cases q : cL c cl i f = 0
    · rw [if_pos q, ← ea]
      exact (hc.2.2.1 _ _ hc.2.2.2.2.2.1).2.2 _ hlv
    · rw [if_neg q]
      have hv : clv0 c (3, cl, i, f) := ⟨ho, by
        rw [if_neg (by show ¬ (3 = 0); omega), if_neg (by show ¬ (3 = 1); omega), if_neg (by show ¬ (3 = 2); omega)]
        exact ⟨rfl, hk, by show 0 < cL c cl i f; omega⟩⟩
      intro z
      have := hc.2.1 _ _ hlv hv (by rw [ea]; exact z)
      cases this
  · unfold yE
    by_cases q : cL c cl i f = 0
    · rw [if_pos q]
      exact (hc.2.2.1 _ _ hc.2.2.2.2.2.1).2.1
    · rw [if_neg q]
      have hv : clv0 c (3, cl, i, f) := ⟨ho, by
        rw [if_neg (by show ¬ (3 = 0); omega), if_neg (by show ¬ (3 = 1); omega), if_neg (by show ¬ (3 = 2); omega)]
        exact ⟨rfl, hk, by show 0 < cL c cl i f; omega⟩⟩
      exact (hc.1 _ hv).2
theorem y_letter (hc : CRep E g c h) {a : Nat} (ha : clt c a = true) : (h.1 a).1 = 9 ∧ a < h.2.1 := by
  have hv := cob_lv (cob8 ha)
  have e := (hc.1 _ hv).1
  have l := (hc.1 _ hv).2
  have ea : cad E g (0, 8, a, 0) = a := rfl
  rw [ea] at e l
  exact ⟨by rw [e]; rfl, l⟩
theorem y_lets (hc : CRep E g c h) (hk : cK cl f = 5) (ho : cob c cl i) : yLet h (car E g cl i f) (yE E g c cl i f) (cS c cl i f).length (cev c cl i f) ∧ ∀ q, q < (cS c cl i f).length → ∀ w, cev c cl i f q = .ref w → w < h.2.1 := by
  obtain ⟨⟨l1, l2, -⟩, -, -⟩ := y_things hc hk ho
  have key : ∀ q, q < (cS c cl i f).length → ∃ v, cev c cl i f q = .ref v ∧ clt c v = true := by
    intro q hq
    refine ⟨(cS c cl i f)[q], ?_, hc.2.2.2.2.1 cl i f _ (List.getElem_mem hq)⟩
    unfold cev
    rw [List.getElem?_eq_getElem hq]
  refine ⟨fun q hq => ?_, fun q hq w hw => ?_⟩
  · obtain ⟨v, e, hv⟩ := key q hq
    obtain ⟨t, -⟩ := y_letter hc hv
    refine ⟨v, e, fun z => ?_, fun z => ?_, t⟩
    · rw [z, l1] at t; cases t
    · rw [z, l2] at t; cases t
  · obtain ⟨v, e, hv⟩ := key q hq
    rw [e] at hw
    cases hw
    exact (y_letter hc hv).2
/-- other things, when a list changes -/
theorem y_ccell {g' : CG} {c' : CS} {n : CN} (hk : cK cl f = 5) (hI : ∀ a b x y, ¬ (a = cl ∧ b = i ∧ x = f) → cI c' a b x y = cI c a b x y) (hJ : cJ c' = cJ c) (hL : ∀ a b x, ¬ (a = cl ∧ b = i ∧ x = f) → cL c' a b x = cL c a b x) (hS : ∀ a b x, ¬ (a = cl ∧ b = i ∧ x = f) → cS c' a b x = cS c a b x) (hg : ∀ a b x, ¬ (a = cl ∧ b = i ∧ x = f) → g' a b x = g a b x)
    (hn : clv0 c n) (h2 : n ≠ (2, cl, i, f)) (h3 : n ≠ (3, cl, i, f)) : ccell E g' c' n = ccell E g c n ∧ cad E g' n = cad E g n := by
  obtain ⟨k, a, b, x⟩ := n
  obtain ⟨-, hkx⟩ := hn
  dsimp only at hkx
  have hcar : ∀ x, car E g' a b x = car E g a b x := by
    intro x
    unfold car
    by_cases q : a = cl ∧ b = i ∧ x = f
    · obtain ⟨rfl, rfl, rfl⟩ := q
      rw [if_neg (by omega), if_neg (by omega)]
    · rw [hg a b x q]
  by_cases q0 : k = 0
  · subst q0
    refine ⟨?_, rfl⟩
    unfold ccell
    rw [if_pos rfl, if_pos rfl]
    simp only [Prod.mk.injEq, true_and]
    funext y
    unfold cfv
    rw [hJ, hcar]
    by_cases z0 : cK a y = 0
    · rw [if_pos z0, if_pos z0, hI a b y 0 (by rintro ⟨rfl, rfl, rfl⟩; omega)]
    · rw [if_neg z0, if_neg z0]
  · rw [if_neg q0] at hkx
    by_cases q1 : k = 1
    · subst q1
      rw [if_pos rfl] at hkx
      have hne : ¬ (a = cl ∧ b = i ∧ x = f) := by rintro ⟨rfl, rfl, rfl⟩; omega
      refine ⟨?_, ?_⟩
      · unfold ccell
        rw [if_neg (by show ¬ (1 = 0); omega), if_pos rfl, if_neg (by show ¬ (1 = 0); omega), if_pos rfl]
        unfold cal
        dsimp only
        rw [hL a b x hne]
        simp only [Prod.mk.injEq, true_and]
        funext y
        unfold cav
        rw [hJ, hI a b x y hne]
      · unfold cad
        rw [if_neg (by show ¬ (1 = 0); omega), if_pos rfl, if_neg (by show ¬ (1 = 0); omega), if_pos rfl]
        exact hcar x
    · rw [if_neg q1] at hkx
      by_cases q2 : k = 2
      · subst q2
        have hne : ¬ (a = cl ∧ b = i ∧ x = f) := by rintro ⟨rfl, rfl, rfl⟩; exact h2 rfl
        refine ⟨?_, ?_⟩
        · unfold ccell
          rw [if_neg (by show ¬ (2 = 0); omega), if_neg (by show ¬ (2 = 1); omega), if_pos rfl, if_neg (by show ¬ (2 = 0); omega), if_neg (by show ¬ (2 = 1); omega), if_pos rfl]
          simp only [Prod.mk.injEq, true_and]
          funext y
          unfold clv
          rw [hI a b x 0 hne, hL a b x hne, hS a b x hne, hg a b x hne]
        · unfold cad
          rw [if_neg (by show ¬ (2 = 0); omega), if_neg (by show ¬ (2 = 1); omega), if_pos rfl, if_neg (by show ¬ (2 = 0); omega), if_neg (by show ¬ (2 = 1); omega), if_pos rfl]
      · rw [if_neg q2] at hkx
        obtain ⟨rfl, -, -⟩ := hkx
        have hne : ¬ (a = cl ∧ b = i ∧ x = f) := by rintro ⟨rfl, rfl, rfl⟩; exact h3 rfl
        refine ⟨?_, ?_⟩
        · unfold ccell
          rw [if_neg (by show ¬ (3 = 0); omega), if_neg (by show ¬ (3 = 1); omega), if_neg (by show ¬ (3 = 2); omega), if_neg (by show ¬ (3 = 0); omega), if_neg (by show ¬ (3 = 1); omega), if_neg (by show ¬ (3 = 2); omega)]
          dsimp only
          rw [hL a b x hne]
          simp only [Prod.mk.injEq, true_and]
          funext y
          unfold cev
          rw [hS a b x hne]
        · unfold cad
          rw [if_neg (by show ¬ (3 = 0); omega), if_neg (by show ¬ (3 = 1); omega), if_neg (by show ¬ (3 = 2); omega), if_neg (by show ¬ (3 = 0); omega), if_neg (by show ¬ (3 = 1); omega), if_neg (by show ¬ (3 = 2); omega)]
          exact hg a b x hne
theorem csS_I {l : List Nat} {n : Nat} {T : Nat × Nat} {a b x y : Nat} (hq : ¬ (a = cl ∧ b = i ∧ x = f)) : cI (csS c cl i f l n T) a b x y = cI c a b x y := by
  show (if a = cl ∧ b = i ∧ x = f ∧ y = 0 then _ else _) = _
  rw [if_neg (fun z => hq ⟨z.1, z.2.1, z.2.2.1⟩)]
  rfl
theorem csS_L {l : List Nat} {n : Nat} {T : Nat × Nat} {a b x : Nat} (hq : ¬ (a = cl ∧ b = i ∧ x = f)) : cL (csS c cl i f l n T) a b x = cL c a b x := by
  show (if a = cl ∧ b = i ∧ x = f then _ else _) = _
  rw [if_neg hq]
  rfl
theorem csS_S {l : List Nat} {n : Nat} {T : Nat × Nat} {a b x : Nat} (hq : ¬ (a = cl ∧ b = i ∧ x = f)) : cS (csS c cl i f l n T) a b x = cS c a b x := by
  show (if a = cl ∧ b = i ∧ x = f then _ else _) = _
  rw [if_neg hq]
  rfl
theorem csS_at {l : List Nat} {n : Nat} {T : Nat × Nat} : cI (csS c cl i f l n T) cl i f 0 = cI c cl i f 0 + 1 ∧ cL (csS c cl i f l n T) cl i f = n ∧ cS (csS c cl i f l n T) cl i f = l := by
  refine ⟨?_, ?_, ?_⟩
  · show (if cl = cl ∧ i = i ∧ f = f ∧ 0 = 0 then _ else _) = _
    rw [if_pos ⟨rfl, rfl, rfl, rfl⟩]
    rfl
  · show (if cl = cl ∧ i = i ∧ f = f then _ else _) = _
    rw [if_pos ⟨rfl, rfl, rfl⟩]
  · show (if cl = cl ∧ i = i ∧ f = f then _ else _) = _
    rw [if_pos ⟨rfl, rfl, rfl⟩]
/-- a list changes in its places -/
theorem CRep_in {l : List Nat} (hc : CRep E g c h) (hk : cK cl f = 5) (ho : cob c cl i) (hl : l.length ≤ cL c cl i f) (hlt : ∀ a ∈ l, clt c a = true) :
    CRep E g (csS c cl i f l (cL c cl i f) (cT c)) (yZ h (car E g cl i f) (yE E g c cl i f) (cI c cl i f 0 + 1) l.length (cL c cl i f) (cev (csS c cl i f l (cL c cl i f) (cT c)) cl i f)) := by
  obtain ⟨⟨-, hen, hne⟩, hbl, hel⟩ := y_things hc hk ho
  obtain ⟨a1, a2, a3⟩ := csS_at (c := c) (cl := cl) (i := i) (f := f) (l := l) (n := cL c cl i f) (T := cT c)
  have hLeq : ∀ a b x, cL (csS c cl i f l (cL c cl i f) (cT c)) a b x = cL c a b x := by
    intro a b x
    by_cases q : a = cl ∧ b = i ∧ x = f
    · obtain ⟨rfl, rfl, rfl⟩ := q; exact a2
    · exact csS_L q
  have hlv : ∀ n, clv0 (csS c cl i f l (cL c cl i f) (cT c)) n ↔ clv0 c n := fun n => clv0_of (c := c) (c' := csS c cl i f l (cL c cl i f) (cT c)) rfl (funext fun a => funext fun b => funext fun x => hLeq a b x)
  have e2 : cad E g (2, cl, i, f) = car E g cl i f := by
    unfold cad car
    rw [if_neg (by show ¬ (2 = 0); omega), if_neg (by show ¬ (2 = 1); omega), if_pos rfl, if_neg (by show ¬ cK cl f = 3; omega)]
  have e3 : cad E g (3, cl, i, f) = g cl i f := by
    unfold cad
    rw [if_neg (by show ¬ (3 = 0); omega), if_neg (by show ¬ (3 = 1); omega), if_neg (by show ¬ (3 = 2); omega)]
  refine ⟨fun n hn => ?_, fun a b ha hb => hc.2.1 a b ((hlv a).mp ha) ((hlv b).mp hb), fun a x hx => ?_, hc.2.2.2.1, fun a b x y hy => ?_, hc.2.2.2.2.2.1, fun a b x hob hkx => ?_⟩
  · have hn := (hlv n).mp hn
    refine ⟨?_, (hc.1 n hn).2⟩
    by_cases q2 : n = (2, cl, i, f)
    · subst q2
      rw [e2, yZ_b]
      unfold ccell
      rw [if_neg (by show ¬ (2 = 0); omega), if_neg (by show ¬ (2 = 1); omega), if_pos rfl]
      refine Prod.ext rfl (Prod.ext rfl ?_)
      funext y
      unfold clv yV yE
      dsimp only
      rw [a1, a2, a3]
    · by_cases q3 : n = (3, cl, i, f)
      · subst q3
        have hp : 0 < cL c cl i f := by
          have := hn.2
          rw [if_neg (by show ¬ (3 = 0); omega), if_neg (by show ¬ (3 = 1); omega), if_neg (by show ¬ (3 = 2); omega)] at this
          exact this.2.2
        have ee : yE E g c cl i f = g cl i f := by unfold yE; rw [if_neg (by omega)]
        rw [e3, ← ee, yZ_e hne]
        unfold ccell
        rw [if_neg (by show ¬ (3 = 0); omega), if_neg (by show ¬ (3 = 1); omega), if_neg (by show ¬ (3 = 2); omega)]
        refine Prod.ext rfl (Prod.ext ?_ rfl)
        exact a2.symm
      · have n1 : cad E g n ≠ car E g cl i f := fun z => q2 (hc.2.1 _ _ hn (clist_lv ho hk) (by rw [e2]; exact z))
        have n2 : cad E g n ≠ yE E g c cl i f := by
          unfold yE
          by_cases q : cL c cl i f = 0
          · rw [if_pos q]; exact (hc.2.2.1 _ _ hc.2.2.2.2.2.1).2.2 _ hn
          · rw [if_neg q]
            intro z
            refine q3 (hc.2.1 _ _ hn ⟨ho, ?_⟩ (by rw [e3]; exact z))
            rw [if_neg (by show ¬ (3 = 0); omega), if_neg (by show ¬ (3 = 1); omega), if_neg (by show ¬ (3 = 2); omega)]
            exact ⟨rfl, hk, by show 0 < cL c cl i f; omega⟩
        rw [yZ_o n1 n2, (hc.1 n hn).1]
        exact (y_ccell (c' := csS c cl i f l (cL c cl i f) (cT c)) (g' := g) hk (fun a b x y q => csS_I q) rfl (fun a b x q => csS_L q) (fun a b x q => csS_S q) (fun _ _ _ _ => rfl) hn q2 q3).1.symm
  · obtain ⟨t1, t2, t3⟩ := hc.2.2.1 a x hx
    refine ⟨?_, t2, fun n hn => t3 n ((hlv n).mp hn)⟩
    have n1 : a ≠ car E g cl i f := fun z => t3 _ (clist_lv ho hk) (by rw [e2]; exact z.symm)
    by_cases q : a = yE E g c cl i f
    · have hz : cL c cl i f = 0 := by
        by_cases z : cL c cl i f = 0
        · exact z
        · exfalso
          have ee : yE E g c cl i f = g cl i f := by unfold yE; rw [if_neg z]
          refine t3 (3, cl, i, f) ⟨ho, ?_⟩ (by rw [e3, q, ee])
          rw [if_neg (by show ¬ (3 = 0); omega), if_neg (by show ¬ (3 = 1); omega), if_neg (by show ¬ (3 = 2); omega)]
          exact ⟨rfl, hk, by show 0 < cL c cl i f; omega⟩
      rw [q, yZ_e hne, ← t1, q, hen]
      refine Prod.ext rfl (Prod.ext rfl ?_)
      funext y
      have l0 : l = [] := List.length_eq_zero_iff.mp (by omega)
      have s0 : cS c cl i f = [] := List.length_eq_zero_iff.mp (by have := (hc.2.2.2.2.2.2 cl i f ho hk).1; omega)
      unfold cev
      rw [a3, l0, s0]
    · rw [yZ_o n1 q]; exact t1
  · by_cases q : a = cl ∧ b = i ∧ x = f
    · obtain ⟨rfl, rfl, rfl⟩ := q
      rw [a3] at hy
      exact hlt y hy
    · rw [csS_S q] at hy
      exact hc.2.2.2.2.1 a b x y hy
  · by_cases q : a = cl ∧ b = i ∧ x = f
    · obtain ⟨rfl, rfl, rfl⟩ := q
      rw [a2, a3]; exact ⟨hl, (hc.2.2.2.2.2.2 a b x ho hk).2⟩
    · rw [csS_S q, csS_L q]
      exact hc.2.2.2.2.2.2 a b x hob hkx
end YC
