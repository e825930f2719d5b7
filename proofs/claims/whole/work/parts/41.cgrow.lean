/-! arrays that grow, a letter made, arrays copied -/
def cgs (g : CG) (cl i f b : Nat) : CG := fun x y z => if x = cl ∧ y = i ∧ z = f then b else g x y z
theorem cgs_ne (g : CG) (cl i f b : Nat) : ∀ x, x ≠ cl → cgs g cl i f b x = g x := fun x hx => by
  funext y z
  unfold cgs
  rw [if_neg (fun h => hx h.1)]
def csG (c : CS) (cl i f n : Nat) (v : Nat → Int32) : CS := (fun a b x y => if a = cl ∧ b = i ∧ x = f then v y else c.1 a b x y, c.2.1, (fun a b x => if a = cl ∧ b = i ∧ x = f then n else c.2.2.1 a b x), c.2.2.2.1, c.2.2.2.2.1, (c.2.2.2.2.2.1 + 1, c.2.2.2.2.2.2 + n))
theorem cgs_car {E : CE} {g : CG} {cl i f b : Nat} (hk : cK cl f = 3) : car E (cgs g cl i f b) cl i f = b := by
  unfold car cgs
  rw [if_pos hk, if_pos ⟨rfl, rfl, rfl⟩]
theorem cgs_cad {E : CE} {g : CG} {cl i f b : Nat} {n : CN} (hk : cK cl f = 3) {c : CS} (hn : clv0 c n) (hne : n ≠ (1, cl, i, f)) : cad E (cgs g cl i f b) n = cad E g n := by
  obtain ⟨k, a, j, x⟩ := n
  obtain ⟨-, hk'⟩ := hn
  dsimp only at hk'
  unfold cad
  dsimp only
  by_cases q0 : k = 0
  · rw [if_pos q0, if_pos q0]
  · rw [if_neg q0] at hk'
    rw [if_neg q0, if_neg q0]
    by_cases q1 : k = 1
    · subst q1
      rw [if_pos rfl, if_pos rfl]
      unfold car cgs
      by_cases q : a = cl ∧ j = i ∧ x = f
      · obtain ⟨rfl, rfl, rfl⟩ := q
        exact absurd rfl hne
      · rw [if_neg q]
    · rw [if_neg q1] at hk'
      rw [if_neg q1, if_neg q1]
      by_cases q2 : k = 2
      · rw [if_pos q2, if_pos q2]
      · rw [if_neg q2] at hk'
        rw [if_neg q2, if_neg q2]
        unfold cgs
        rw [if_neg]
        rintro ⟨rfl, rfl, rfl⟩
        omega
theorem csG_lv {c : CS} {cl i f n : Nat} {v : Nat → Int32} (hk : cK cl f = 3) {m : CN} : clv0 (csG c cl i f n v) m ↔ clv0 c m := by
  obtain ⟨k, a, j, x⟩ := m
  have e : cK a x = 5 → cL (csG c cl i f n v) a j x = cL c a j x := by
    intro q
    unfold cL csG
    dsimp only
    rw [if_neg]
    rintro ⟨rfl, rfl, rfl⟩
    omega
  unfold clv0
  dsimp only
  constructor
  · rintro ⟨h1, h2⟩
    refine ⟨h1, ?_⟩
    by_cases q0 : k = 0
    · rw [if_pos q0] at h2 ⊢; exact h2
    · rw [if_neg q0] at h2 ⊢
      by_cases q1 : k = 1
      · rw [if_pos q1] at h2 ⊢; exact h2
      · rw [if_neg q1] at h2 ⊢
        by_cases q2 : k = 2
        · rw [if_pos q2] at h2 ⊢; exact h2
        · rw [if_neg q2] at h2 ⊢
          rw [e h2.2.1] at h2; exact h2
  · rintro ⟨h1, h2⟩
    refine ⟨h1, ?_⟩
    by_cases q0 : k = 0
    · rw [if_pos q0] at h2 ⊢; exact h2
    · rw [if_neg q0] at h2 ⊢
      by_cases q1 : k = 1
      · rw [if_pos q1] at h2 ⊢; exact h2
      · rw [if_neg q1] at h2 ⊢
        by_cases q2 : k = 2
        · rw [if_pos q2] at h2 ⊢; exact h2
        · rw [if_neg q2] at h2 ⊢
          rw [e h2.2.1]; exact h2
/-- other things stay as they are -/
theorem csG_cell {E : CE} {g : CG} {c : CS} {cl i f n b : Nat} {v : Nat → Int32} (hk : cK cl f = 3) {m : CN} (hm : clv0 c m) (h0 : m ≠ (0, cl, i, 0)) (h1 : m ≠ (1, cl, i, f)) : ccell E (cgs g cl i f b) (csG c cl i f n v) m = ccell E g c m := by
  obtain ⟨k, a, j, x⟩ := m
  obtain ⟨-, hk'⟩ := hm
  dsimp only at hk'
  have eI : ∀ a' j' x' y, ¬ (a' = cl ∧ j' = i ∧ x' = f) → cI (csG c cl i f n v) a' j' x' y = cI c a' j' x' y := by
    intro a' j' x' y q
    unfold cI csG
    dsimp only
    rw [if_neg q]
  have eL : ∀ a' j' x', ¬ (a' = cl ∧ j' = i ∧ x' = f) → cL (csG c cl i f n v) a' j' x' = cL c a' j' x' := by
    intro a' j' x' q
    unfold cL csG
    dsimp only
    rw [if_neg q]
  have eg : ∀ a' j' x', ¬ (a' = cl ∧ j' = i ∧ x' = f) → cgs g cl i f b a' j' x' = g a' j' x' := by
    intro a' j' x' q
    unfold cgs
    rw [if_neg q]
  unfold ccell
  dsimp only
  by_cases q0 : k = 0
  · subst q0
    rw [if_pos rfl] at hk'
    subst hk'
    rw [if_pos rfl, if_pos rfl]
    simp only [Prod.mk.injEq, true_and]
    funext y
    have hq : ¬ (a = cl ∧ j = i ∧ y = f) := by
      rintro ⟨rfl, rfl, -⟩
      exact h0 rfl
    unfold cfv car
    rw [eI _ _ _ _ hq, eg _ _ _ hq]
    rfl
  · rw [if_neg q0] at hk' ⊢
    rw [if_neg q0]
    by_cases q1 : k = 1
    · subst q1
      rw [if_pos rfl, if_pos rfl]
      have hq : ¬ (a = cl ∧ j = i ∧ x = f) := by
        rintro ⟨rfl, rfl, rfl⟩
        exact h1 rfl
      unfold cal
      rw [eL _ _ _ hq]
      simp only [Prod.mk.injEq, true_and]
      funext y
      unfold cav
      rw [eI _ _ _ _ hq]
      rfl
    · rw [if_neg q1] at hk' ⊢
      rw [if_neg q1]
      have hq : cK a x = 5 → ¬ (a = cl ∧ j = i ∧ x = f) := by
        rintro q ⟨rfl, rfl, rfl⟩
        omega
      by_cases q2 : k = 2
      · rw [if_pos q2] at hk' ⊢
        rw [if_pos q2]
        simp only [Prod.mk.injEq, true_and]
        funext y
        unfold clv
        rw [eI _ _ _ _ (hq hk'), eL _ _ _ (hq hk'), eg _ _ _ (hq hk')]
        rfl
      · rw [if_neg q2] at hk' ⊢
        rw [if_neg q2, eL _ _ _ (hq hk'.2.1)]
        rfl
/-- a field that grows gets a new array -/
theorem CRep_grow {E : CE} {g : CG} {c : CS} {h : xH} {cl i f n : Nat} {v : Nat → Int32} (hc : CRep E g c h) (hk : cK cl f = 3) (ht : ctag cl f ≠ 21) (ho : cob c cl i) : CRep E (cgs g cl i f h.2.1) (csG c cl i f n v) (xset (xset h.1 h.2.1 (ctag cl f, n, fun j => .int (v j))) (coa E cl i) (cl + 1, cnf cl, updV (cfv E g c cl i) f (.ref h.2.1)), h.2.1 + 1, h.2.2 + n) := by
  obtain ⟨h1, h2, h3, h4, h5, h6, h7⟩ := hc
  have hlo := cob_lv ho
  have hla : clv0 c (1, cl, i, f) := carr_lv ho (by omega)
  have hoa : cad E g (0, cl, i, 0) = coa E cl i := rfl
  have holt : coa E cl i < h.2.1 := (h1 _ hlo).2
  have hn1 : cad E (cgs g cl i f h.2.1) (1, cl, i, f) = h.2.1 := cgs_car hk
  refine ⟨fun m hm => ?_, fun a b ha hb e => ?_, fun a x hx => ?_, ?_, h5, h6, fun a j x q1 q2 => ?_⟩
  · have hm' := (csG_lv hk).mp hm
    by_cases q1 : m = (1, cl, i, f)
    · subst q1
      rw [hn1]
      refine ⟨?_, Nat.lt_succ_self _⟩
      have : h.2.1 ≠ coa E cl i := by omega
      simp only [xset, if_neg this, if_true]
      unfold ccell
      rw [if_neg (by show ¬ (1 = 0); omega), if_pos rfl]
      simp only [Prod.mk.injEq, true_and]
      refine ⟨?_, ?_⟩
      · unfold cal
        rw [if_pos hk]
        unfold cL csG
        simp
      · funext y
        unfold cav
        rw [if_neg (by omega), if_neg ht]
        unfold cI csG
        simp
    · rw [cgs_cad hk hm' q1]
      refine ⟨?_, Nat.lt_succ_of_lt (h1 m hm').2⟩
      by_cases q0 : m = (0, cl, i, 0)
      · subst q0
        rw [hoa]
        simp only [xset, if_true]
        unfold ccell
        rw [if_pos rfl]
        simp only [Prod.mk.injEq, true_and]
        funext y
        unfold updV
        by_cases qy : y = f
        · subst qy
          rw [if_pos rfl]
          unfold cfv
          rw [if_neg (by omega), if_neg (by omega), if_neg (by omega), if_neg (by omega), cgs_car hk]
        · rw [if_neg qy]
          have hq : ¬ (cl = cl ∧ i = i ∧ y = f) := fun z => qy z.2.2
          unfold cfv car cgs
          rw [if_neg hq]
          unfold cI csG
          dsimp only
          rw [if_neg hq]
          rfl
      · have e1 : cad E g m ≠ coa E cl i := fun e => q0 (h2 m _ hm' hlo e)
        have e2 : cad E g m ≠ h.2.1 := by have := (h1 m hm').2; omega
        simp only [xset, if_neg e1, if_neg e2]
        rw [(h1 m hm').1, csG_cell hk hm' q0 q1]
  · have ha' := (csG_lv hk).mp ha
    have hb' := (csG_lv hk).mp hb
    by_cases qa : a = (1, cl, i, f)
    · by_cases qb : b = (1, cl, i, f)
      · rw [qa, qb]
      · rw [qa, hn1, cgs_cad hk hb' qb] at e
        have := (h1 b hb').2
        omega
    · by_cases qb : b = (1, cl, i, f)
      · rw [qb, hn1, cgs_cad hk ha' qa] at e
        have := (h1 a ha').2
        omega
      · rw [cgs_cad hk ha' qa, cgs_cad hk hb' qb] at e
        exact h2 a b ha' hb' e
  · obtain ⟨e1, e2, e3⟩ := h3 a x hx
    refine ⟨?_, Nat.lt_succ_of_lt e2, fun m hm => ?_⟩
    · have n1 : a ≠ coa E cl i := fun e => e3 _ hlo e.symm
      have n2 : a ≠ h.2.1 := by omega
      simp only [xset, if_neg n1, if_neg n2, e1]
    · have hm' := (csG_lv hk).mp hm
      by_cases q1 : m = (1, cl, i, f)
      · subst q1; rw [hn1]; omega
      · rw [cgs_cad hk hm' q1]; exact e3 m hm'
  · unfold cT csG
    have : h.2 = c.2.2.2.2.2 := h4
    rw [this]
  · have hq : ¬ (a = cl ∧ j = i ∧ x = f) := by
      rintro ⟨rfl, rfl, rfl⟩
      omega
    have e : cL (csG c cl i f n v) a j x = cL c a j x := by
      unfold cL csG
      dsimp only
      rw [if_neg hq]
    rw [e]
    exact h7 a j x q1 q2
