/-! a new letter in the class's memory -/
def csN (c : CS) : CS := (fun a j x y => if a = 8 ∧ j = c.2.2.2.2.2.1 then 0 else c.1 a j x y, c.2.1, c.2.2.1, c.2.2.2.1, (fun a => if a = c.2.2.2.2.2.1 then true else c.2.2.2.2.1 a), (c.2.2.2.2.2.1 + 3, c.2.2.2.2.2.2 + 256))
theorem cK8 : ∀ f, f < 20 → cK 8 f = 0 ∨ (cK 8 f = 2 ∧ (f = 18 ∨ f = 19)) := by decide
theorem cK8' (f : Nat) : cK 8 f = 0 ∨ (cK 8 f = 2 ∧ (f = 18 ∨ f = 19)) ∨ cK 8 f = 9 := by
  by_cases q : f < 20
  · rcases cK8 f q with h | h
    · exact Or.inl h
    · exact Or.inr (Or.inl h)
  · right; right
    have e : (cTab.getD 8 [])[f]? = none := List.getElem?_eq_none (by have : (cTab.getD 8 []).length = 20 := rfl
                                                                      omega)
    unfold cK cFt
    rw [List.getD_eq_getElem?_getD, e]
    rfl
theorem csN_lv {c : CS} {n : CN} : clv0 (csN c) n → clv0 c n ∨ (n.2.1 = 8 ∧ n.2.2.1 = c.2.2.2.2.2.1 ∧ ((n.1 = 0 ∧ n.2.2.2 = 0) ∨ (n.1 = 1 ∧ (n.2.2.2 = 18 ∨ n.2.2.2 = 19)))) := by
  obtain ⟨k, a, j, x⟩ := n
  rintro ⟨⟨h1, h2, h3⟩, h4⟩
  dsimp only at h1 h2 h3 h4 ⊢
  by_cases q : a = 8 ∧ j = c.2.2.2.2.2.1
  · right
    obtain ⟨rfl, qj⟩ := q
    refine ⟨rfl, qj, ?_⟩
    by_cases q0 : k = 0
    · rw [if_pos q0] at h4; exact Or.inl ⟨q0, h4⟩
    · rw [if_neg q0] at h4
      have := cK8' x
      by_cases q1 : k = 1
      · rw [if_pos q1] at h4
        exact Or.inr ⟨q1, by omega⟩
      · rw [if_neg q1] at h4
        exfalso
        by_cases q2 : k = 2
        · rw [if_pos q2] at h4; omega
        · rw [if_neg q2] at h4; omega
  · left
    refine ⟨⟨h1, h2, ?_⟩, h4⟩
    dsimp only
    by_cases qa : a = 8
    · rw [if_pos qa] at h3 ⊢
      have qj : ¬ j = c.2.2.2.2.2.1 := fun e => q ⟨qa, e⟩
      unfold clt csN at h3
      dsimp only at h3
      rw [if_neg qj] at h3
      exact h3
    · rw [if_neg qa] at h3 ⊢; exact h3
theorem csN_cell {E : CE} {g : CG} {c : CS} {n : CN} (h : ¬ (n.2.1 = 8 ∧ n.2.2.1 = c.2.2.2.2.2.1)) : ccell E g (csN c) n = ccell E g c n := by
  obtain ⟨k, a, j, x⟩ := n
  dsimp only at h
  have e : ∀ x y, cI (csN c) a j x y = cI c a j x y := by
    intro x y
    unfold cI csN
    dsimp only
    rw [if_neg h]
  have e1 : cfv E g (csN c) a j = cfv E g c a j := by
    funext y; unfold cfv; rw [e]; rfl
  have e2 : cav E (csN c) a j x = cav E c a j x := by
    funext y; unfold cav; rw [e]; rfl
  have e3 : clv E g (csN c) a j x = clv E g c a j x := by
    funext y; unfold clv; rw [e]; rfl
  unfold ccell
  dsimp only
  rw [e1, e2, e3]
  rfl
theorem CRep_letter {E : CE} {g : CG} {c : CS} {h : xH} (hc : CRep E g c h) : CRep E g (csN c) (xset (xset (xset h.1 h.2.1 (9, 20, cfv E g (csN c) 8 h.2.1)) (h.2.1 + 1) (20, 36, fun _ => .int 0)) (h.2.1 + 2) (22, 200, fun _ => .int 0), h.2.1 + 3, h.2.2 + 256) ∧ cob (csN c) 8 h.2.1 ∧ cMon c (csN c) := by
  obtain ⟨h1, h2, h3, h4, h5, h6, h7⟩ := hc
  have hT : c.2.2.2.2.2.1 = h.2.1 := by
    have : h.2 = c.2.2.2.2.2 := h4
    rw [this]
  have hmon : cMon c (csN c) := by
    intro a ha
    unfold clt csN
    dsimp only
    split
    · rfl
    · exact ha
  have hcob : cob (csN c) 8 h.2.1 := by
    refine ⟨by omega, by omega, ?_⟩
    rw [if_pos rfl]
    unfold clt csN
    dsimp only
    rw [hT, if_pos rfl]
  -- an old thing is not the new letter
  have hold : ∀ n, clv0 c n → ¬ (n.2.1 = 8 ∧ n.2.2.1 = h.2.1) := by
    rintro ⟨k, a, j, x⟩ hn ⟨rfl, rfl⟩
    have := (h1 (0, 8, h.2.1, 0) (cob_lv hn.1)).2
    have e : cad E g (0, 8, h.2.1, 0) = h.2.1 := rfl
    omega
  have haddr : ∀ n : CN, n.2.1 = 8 ∧ n.2.2.1 = h.2.1 ∧ ((n.1 = 0 ∧ n.2.2.2 = 0) ∨ (n.1 = 1 ∧ (n.2.2.2 = 18 ∨ n.2.2.2 = 19))) → n = (0, 8, h.2.1, 0) ∧ cad E g n = h.2.1 ∨ n = (1, 8, h.2.1, 18) ∧ cad E g n = h.2.1 + 1 ∨ n = (1, 8, h.2.1, 19) ∧ cad E g n = h.2.1 + 2 := by
    rintro ⟨k, a, j, x⟩ ⟨q1, q2, q3⟩
    dsimp only at q1 q2 q3
    subst q1 q2
    rcases q3 with ⟨rfl, rfl⟩ | ⟨rfl, rfl | rfl⟩
    · exact Or.inl ⟨rfl, rfl⟩
    · exact Or.inr (Or.inl ⟨rfl, rfl⟩)
    · exact Or.inr (Or.inr ⟨rfl, rfl⟩)
  refine ⟨⟨fun n hn => ?_, fun a b ha hb e => ?_, fun a x hx => ?_, ?_, fun cl i f a ha => hmon a (h5 cl i f a ha), h6, fun cl i f q1 q2 => ?_⟩, hcob, hmon⟩
  · rcases csN_lv hn with hn | hn
    · obtain ⟨e1, e2⟩ := h1 n hn
      refine ⟨?_, by show _ < h.2.1 + 3; omega⟩
      rw [csN_cell (by rw [hT]; exact hold n hn), ← e1]
      have z1 : cad E g n ≠ h.2.1 := by omega
      have z2 : cad E g n ≠ h.2.1 + 1 := by omega
      have z3 : cad E g n ≠ h.2.1 + 2 := by omega
      simp only [xset, if_neg z1, if_neg z2, if_neg z3]
    · rw [hT] at hn
      have z1 : h.2.1 ≠ h.2.1 + 1 := by omega
      have z2 : h.2.1 ≠ h.2.1 + 2 := by omega
      have z3 : h.2.1 + 1 ≠ h.2.1 + 2 := by omega
      have hz : ∀ x y, cI (csN c) 8 h.2.1 x y = 0 := by
        intro x y
        unfold cI csN
        dsimp only
        rw [hT, if_pos ⟨rfl, rfl⟩]
      rcases haddr n hn with ⟨rfl, e⟩ | ⟨rfl, e⟩ | ⟨rfl, e⟩
      · rw [e]
        refine ⟨?_, by show _ < h.2.1 + 3; omega⟩
        simp only [xset, if_neg z1, if_neg z2, if_true]
        rfl
      · rw [e]
        refine ⟨?_, by show _ < h.2.1 + 3; omega⟩
        simp only [xset, if_neg z3, if_true]
        unfold ccell
        rw [if_neg (by show ¬ (1 = 0); omega), if_pos rfl]
        refine Prod.ext rfl (Prod.ext rfl ?_)
        funext y
        show _ = cav E (csN c) 8 h.2.1 18 y
        unfold cav
        rw [if_neg (by decide), if_neg (by decide), hz]
      · rw [e]
        refine ⟨?_, by show _ < h.2.1 + 3; omega⟩
        simp only [xset, if_true]
        unfold ccell
        rw [if_neg (by show ¬ (1 = 0); omega), if_pos rfl]
        refine Prod.ext rfl (Prod.ext rfl ?_)
        funext y
        show _ = cav E (csN c) 8 h.2.1 19 y
        unfold cav
        rw [if_neg (by decide), if_neg (by decide), hz]
  · rcases csN_lv ha with ha | ha
    · rcases csN_lv hb with hb | hb
      · exact h2 a b ha hb e
      · rw [hT] at hb
        have := (h1 a ha).2
        rcases haddr b hb with ⟨-, e'⟩ | ⟨-, e'⟩ | ⟨-, e'⟩ <;> omega
    · rw [hT] at ha
      rcases csN_lv hb with hb | hb
      · have := (h1 b hb).2
        rcases haddr a ha with ⟨-, e'⟩ | ⟨-, e'⟩ | ⟨-, e'⟩ <;> omega
      · rw [hT] at hb
        rcases haddr a ha with ⟨ra, ea⟩ | ⟨ra, ea⟩ | ⟨ra, ea⟩ <;> rcases haddr b hb with ⟨rb, eb⟩ | ⟨rb, eb⟩ | ⟨rb, eb⟩ <;> first | (rw [ra, rb]; done) | (exfalso; omega)
  · obtain ⟨e1, e2, e3⟩ := h3 a x hx
    refine ⟨?_, by show _ < h.2.1 + 3; omega, fun n hn => ?_⟩
    · have z1 : a ≠ h.2.1 := by omega
      have z2 : a ≠ h.2.1 + 1 := by omega
      have z3 : a ≠ h.2.1 + 2 := by omega
      simp only [xset, if_neg z1, if_neg z2, if_neg z3, e1]
    · rcases csN_lv hn with hn | hn
      · exact e3 n hn
      · rw [hT] at hn
        rcases haddr n hn with ⟨-, e'⟩ | ⟨-, e'⟩ | ⟨-, e'⟩ <;> omega
  · unfold cT csN
    dsimp only
    have : h.2 = c.2.2.2.2.2 := h4
    rw [this]
  · refine h7 cl i f ?_ q2
    obtain ⟨r1, r2, r3⟩ := q1
    refine ⟨r1, r2, ?_⟩
    by_cases qa : cl = 8
    · subst qa
      have := cK8' f
      omega
    · rw [if_neg qa] at r3 ⊢; exact r3
theorem x8a : ∀ y, y < 18 → cK 8 y = 0 ∧ xfty 8 y = some .int := by decide +kernel
theorem x8b0 (q : Nat) : TX4 (q + 20) = TX4 19 := by simp [TX4]
theorem x8b (q : Nat) : xfty 8 (q + 20) = some (.array .byte) := by
  show parseFieldDescriptor (TX4 (q + 20)).2.2.1 = _
  rw [x8b0]
  decide +kernel
theorem x8d (f : Nat) (h : 20 ≤ f) : cK 8 f = 9 := by
  have hl : (cTab.getD 8 []).length = 20 := rfl
  have e : (cTab.getD 8 [])[f]? = none := List.getElem?_eq_none (by omega)
  unfold cK cFt
  rw [List.getD_eq_getElem?_getD, e]
  rfl
theorem x8c (q : Nat) : cK 8 (q + 20) = 9 := x8d _ (by omega)
theorem xF8 {E : CE} {g : CG} {c : CS} {b y : Nat} (hT : c.2.2.2.2.2.1 = b) : cfv E g (csN c) 8 b y = updV (updV (fun k => match xfty 8 k with
        | some ty => defaultValue ty
        | none => .null) 18 (.ref (b + 1))) 19 (.ref (b + 1 + 1)) y := by
  by_cases q : y < 18
  · obtain ⟨h1, h2⟩ := x8a y q
    unfold updV cfv
    rw [if_pos h1, if_neg (show ¬ y = 19 by omega), if_neg (show ¬ y = 18 by omega)]
    dsimp only
    rw [h2]
    unfold cI csN
    dsimp only
    rw [hT, if_pos ⟨rfl, rfl⟩]
    rfl
  · by_cases q1 : y = 18
    · subst q1; rfl
    · by_cases q2 : y = 19
      · subst q2; rfl
      · obtain ⟨r, rfl⟩ : ∃ r, y = r + 20 := ⟨y - 20, by omega⟩
        unfold updV cfv
        rw [x8c, if_neg (show ¬ (9 = 0) by omega), if_neg (show ¬ (9 = 1) by omega), if_neg (show ¬ (9 = 4) by omega), if_pos rfl, if_neg q2, if_neg q1]
        dsimp only
        rw [x8b]
        rfl
section CLT
variable {E : CE} {Q : Nat → Bool} {pF : Nat → List Value → xH → Option (Option Value × xH)} {d : Nat} {k : xK} {o nL : Nat} {pc p1 p2 np : Nat} {lv lv' : xL} {st : List Value} {ret : Option FieldType} {rr : Option Value} {cf c c' : CS} {g : CG}
theorem cR_newL {idx idx2 : Nat} (hl : xAt k pc (.new idx) p1) (hl1 : xAt k p1 .dup p2) (hl2 : xAt k p2 (.invokespecial idx2) np) (hx : xkR o idx = some 8) (hy : xmR o idx2 = none ∧ xnR o idx2 = some 61) (hp : ∀ as h, pF 61 as h = none) (hcat : ∀ b, xcat (.ref b :: st) ≤ 8) (hc' : some (csN c) = some c') (kk : ∀ b, b = (cT c).1 → cob c' 8 b → cMon c c' → cR E Q pF (d + 1) k o nL ret rr cf g c' (np, lv, .ref (coa E 8 b) :: st)) : cR E Q pF (d + 1) k o nL ret rr cf g c (pc, lv, st) := by
  cases hc'
  intro h hc
  have hT : h.2 = cT c := hc.2.2.2.1
  obtain ⟨r1, r2, r3⟩ := CRep_letter hc
  obtain ⟨g', h', e1, e2, e3, e4⟩ := kk h.2.1 (by rw [hT]) r2 r3 _ r1
  refine ⟨g', h', e1, e2, cMon_t r3 e3, ?_⟩
  refine eE_new (np := p1) (ci := 8) hl hx (by decide +kernel) rfl ?_
  refine eE_dup (np := p2) hl1 rfl ?_
  refine eE_init (as := []) (st := .ref h.2.1 :: st) (n := 0) (b := h.2.1) hl2 (Or.inr hy) (by decide +kernel) rfl rfl (hcat _) ⟨by decide +kernel, by decide +kernel, by decide +kernel⟩ (xLetter (d := d) (b := h.2.1) (F := fun k => match xfty 8 k with
        | some ty => defaultValue ty
        | none => .null) (hp _ _) ?_ (by show h.2.1 < h.2.1 + 1; omega) rfl) ?_
  · show xset h.1 h.2.1 _ h.2.1 = _
    simp only [xset, if_true]
    refine Prod.ext rfl (Prod.ext (by decide +kernel) ?_)
    rfl
  · refine cast ?_ e4
    congr 1
    refine Prod.ext rfl (Prod.ext rfl (Prod.ext rfl (Prod.ext ?_ rfl)))
    show xset (xset (xset h.1 h.2.1 (9, 20, cfv E g (csN c) 8 h.2.1)) (h.2.1 + 1) (20, 36, fun _ => .int 0)) (h.2.1 + 2) (22, 200, fun _ => .int 0) = _
    funext q
    have z1 : h.2.1 ≠ h.2.1 + 1 := by omega
    have z2 : h.2.1 ≠ h.2.1 + 2 := by omega
    have z3 : h.2.1 + 1 ≠ h.2.1 + 2 := by omega
    by_cases q1 : q = h.2.1
    · subst q1
      simp only [xset, if_neg z1, if_neg z2, if_true]
      refine Prod.ext rfl (Prod.ext rfl ?_)
      funext y
      exact xF8 (by have : h.2 = c.2.2.2.2.2 := hT
                    rw [this])
    · by_cases q2 : q = h.2.1 + 1
      · subst q2
        simp [xset]
      · by_cases q3 : q = h.2.1 + 2
        · subst q3
          simp [xset]
        · simp [xset, q1, q2, q3]
end CLT
