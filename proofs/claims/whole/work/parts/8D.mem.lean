/-! the law's memory: the class's, the reference's, the script, the answer's place -/
/-- what lies there that is not the class's -/
def lX (b L : Nat) (xs : Nat → Int32) (ao : Nat) (x0 : Nat → Value) (aR : Nat) (σ : RS) (eD : Nat) : Nat → Option xC := fun a => if aR ≤ a ∧ a ≤ aR + 122 then some (rcell aR σ (a - aR)) else if a = ao then some (21, 1, x0) else if a = b then some (99, L, fun j => .int (xs j)) else if a = eD then some (24, 0, fun _ => .null) else none
/-- how they lie -/
def lP (b ao aR eD : Nat) : Prop := b < aR ∧ eD < aR ∧ ao = aR + 123 ∧ b ≠ eD
def lE (B b L : Nat) (xs : Nat → Int32) (ao : Nat) (x0 : Nat → Value) (aR : Nat) (σ : RS) (eD : Nat) : CE := cE0 B eD (lX b L xs ao x0 aR σ eD)
section LM
variable {B b L : Nat} {xs : Nat → Int32} {ao : Nat} {x0 : Nat → Value} {aR : Nat} {σ : RS} {eD : Nat} {g : CG} {c : CS} {h : xH}
theorem lX_ref (hp : lP b ao aR eD) {j : Nat} (hj : j ≤ 122) : lX b L xs ao x0 aR σ eD (aR + j) = some (rcell aR σ j) := by
  unfold lX
  rw [if_pos ⟨by omega, by omega⟩, Nat.add_sub_cancel_left]
theorem lX_ao (hp : lP b ao aR eD) : lX b L xs ao x0 aR σ eD ao = some (21, 1, x0) := by
  unfold lX
  rw [if_neg (by have := hp.2.2.1; omega), if_pos rfl]
theorem lX_b (hp : lP b ao aR eD) : lX b L xs ao x0 aR σ eD b = some (99, L, fun j => .int (xs j)) := by
  unfold lX
  rw [if_neg (by have := hp.1; omega), if_neg (by have := hp.2.2.1; have := hp.1; omega), if_pos rfl]
theorem lX_eD (hp : lP b ao aR eD) : lX b L xs ao x0 aR σ eD eD = some (24, 0, fun _ => .null) := by
  unfold lX
  rw [if_neg (by have := hp.2.1; omega), if_neg (by have := hp.2.2.1; have := hp.2.1; omega), if_neg (fun e => hp.2.2.2 e.symm), if_pos rfl]
theorem l_S (hp : lP b ao aR eD) (hc : CRep (lE B b L xs ao x0 aR σ eD) g c h) : lwS h b L xs := by
  have e := c_ext hc (lX_b hp)
  refine ⟨by rw [e], by rw [e], fun j _ => by rw [e]⟩
theorem l_ao (hp : lP b ao aR eD) (hc : CRep (lE B b L xs ao x0 aR σ eD) g c h) : h.1 ao = (21, 1, x0) := c_ext hc (lX_ao hp)
theorem l_ma (hp : lP b ao aR eD) (hc : CRep (lE B b L xs ao x0 aR σ eD) g c h) : (h.1 aR).1 = 17 := by
  rw [c_ext hc (show lX b L xs ao x0 aR σ eD aR = some (rcell aR σ 0) from lX_ref (j := 0) hp (by omega))]
  rfl
theorem l_bcM {f : Nat → xC} {T : Nat × Nat} {y : Nat} (h1 : (f aR).1 = 17) (hy : (xMn y).cls = "AgreedStoreModel") : (xMn y).cls = (xCl ((((f, T) : xH).1 aR).1 - 1)).1 ∧ 0 < (((f, T) : xH).1 aR).1 ∧ (((f, T) : xH).1 aR).1 ≤ 17 := by
  show (xMn y).cls = (xCl ((f aR).1 - 1)).1 ∧ 0 < (f aR).1 ∧ (f aR).1 ≤ 17
  rw [h1, hy]
  exact ⟨rfl, by decide, by decide⟩
/-- the reference's part is as it is -/
theorem l_lay (hp : lP b ao aR eD) (hc : CRep (lE B b L xs ao x0 aR σ eD) g c h) : h = (layR aR σ h.1, h.2) := by
  refine Prod.ext (funext fun a => ?_) rfl
  show h.1 a = layR aR σ h.1 a
  unfold layR
  by_cases q : aR ≤ a ∧ a ≤ aR + 122
  · rw [if_pos q]
    have := c_ext hc (lX_ref (L := L) (xs := xs) (x0 := x0) (σ := σ) hp (show a - aR ≤ 122 by omega))
    rw [show aR + (a - aR) = a by omega] at this
    exact this
  · rw [if_neg q]
/-- what is not the class's changes -/
theorem CRep_X {E : CE} {X : Nat → Option xC} (hc : CRep E g c h) {f : Nat → xC} (h1 : ∀ a x, X a = some x → (∃ y, E.2.2.2 a = some y) ∧ f a = x) (h2 : ∀ a, E.2.2.2 a = none → f a = h.1 a) (h3 : X E.2.2.1 = some (24, 0, fun _ => .null)) : CRep (E.1, E.2.1, E.2.2.1, X) g c (f, h.2) := by
  obtain ⟨k1, k2, k3, k4, k5, k6, k7⟩ := hc
  refine ⟨fun n hn => ⟨?_, (k1 n hn).2⟩, k2, fun a x hx => ?_, k4, k5, h3, k7⟩
  · have hn0 : E.2.2.2 (cad E g n) = none := by
      cases q : E.2.2.2 (cad E g n) with
      | none => rfl
      | some x => exact absurd rfl ((k3 _ x q).2.2 n hn)
    show f (cad E g n) = _
    rw [h2 _ hn0]
    exact (k1 n hn).1
  · obtain ⟨⟨y, hy⟩, e⟩ := h1 a x hx
    exact ⟨e, (k3 a y hy).2.1, (k3 a y hy).2.2⟩
theorem l_model (hp : lP b ao aR eD) (hc : CRep (lE B b L xs ao x0 aR σ eD) g c h) (σ' : RS) : CRep (lE B b L xs ao x0 aR σ' eD) g c (layR aR σ' h.1, h.2) := by
  refine CRep_X (X := lX b L xs ao x0 aR σ' eD) hc (fun a x hx => ?_) (fun a ha => ?_) (lX_eD hp)
  · by_cases q : aR ≤ a ∧ a ≤ aR + 122
    · have e1 : lX b L xs ao x0 aR σ' eD a = some (rcell aR σ' (a - aR)) := by unfold lX; rw [if_pos q]
      refine ⟨⟨rcell aR σ (a - aR), by show lX b L xs ao x0 aR σ eD a = _; unfold lX; rw [if_pos q]⟩, ?_⟩
      rw [e1] at hx
      cases hx
      show layR aR σ' h.1 a = _
      unfold layR
      rw [if_pos q]
    · have e1 : lX b L xs ao x0 aR σ' eD a = lX b L xs ao x0 aR σ eD a := by unfold lX; rw [if_neg q, if_neg q]
      rw [e1] at hx
      refine ⟨⟨x, hx⟩, ?_⟩
      show layR aR σ' h.1 a = _
      unfold layR
      rw [if_neg q]
      exact c_ext hc hx
  · show layR aR σ' h.1 a = _
    unfold layR
    rw [if_neg ?_]
    intro q
    have : lX b L xs ao x0 aR σ eD a = none := ha
    unfold lX at this
    rw [if_pos q] at this
    cases this
theorem l_out (hp : lP b ao aR eD) (hc : CRep (lE B b L xs ao x0 aR σ eD) g c h) (v : Int64) : CRep (lE B b L xs ao (updV x0 0 (.long v)) aR σ eD) g c (xlst h ao 0 v) := by
  have e0 := l_ao hp hc
  have e1 : (xlst h ao 0 v).1 ao = (21, 1, updV x0 0 (.long v)) := by
    show xset h.1 ao _ ao = _
    unfold xset
    rw [if_pos rfl, e0]
  refine CRep_X (X := lX b L xs ao (updV x0 0 (.long v)) aR σ eD) hc (fun a x hx => ?_) (fun a ha => ?_) (lX_eD hp)
  · by_cases q : a = ao
    · subst q
      rw [lX_ao hp] at hx
      cases hx
      exact ⟨⟨_, lX_ao hp⟩, e1⟩
    · have e2 : lX b L xs ao (updV x0 0 (.long v)) aR σ eD a = lX b L xs ao x0 aR σ eD a := by unfold lX; rw [if_neg q, if_neg q]
      rw [e2] at hx
      refine ⟨⟨x, hx⟩, ?_⟩
      show xset h.1 ao _ a = _
      unfold xset
      rw [if_neg q]
      exact c_ext hc hx
  · show xset h.1 ao _ a = _
    unfold xset
    rw [if_neg ?_]
    intro q
    subst q
    rw [show (lE B b L xs a x0 aR σ eD).2.2.2 a = some (21, 1, x0) from lX_ao hp] at ha
    cases ha
/-- a call of the reference -/
theorem l_call {pF : Nat → List Value → xH → Option (Option Value × xH)} (hp : lP b ao aR eD) (hc : CRep (lE B b L xs ao x0 aR σ eD) g c h) {d y : Nat} {as : List Value} {r : Option Value} {σ' : RS} (hm : xCo pF d y as (layR aR σ h.1, h.2) r (layR aR σ' h.1, h.2)) : xCo pF d y as h r (layR aR σ' h.1, h.2) ∧ CRep (lE B b L xs ao x0 aR σ' eD) g c (layR aR σ' h.1, h.2) := by
  have e := l_lay hp hc
  refine ⟨?_, l_model hp hc σ'⟩
  rw [← e] at hm
  exact hm
end LM
/-! the class's memory behind the constructor -/
theorem CRep_0 {B eD N u : Nat} {X : Nat → Option xC} {m : Int32} {J : Int64} {f : Nat → xC} (hN : B + 1138 ≤ N) (hX : ∀ a x, X a = some x → f a = x ∧ a < N ∧ ¬ (B ≤ a ∧ a < B + 1138)) (hD : X eD = some (24, 0, fun _ => .null)) (hf : ∀ d, d < 1138 → f (B + d) = ccell (cE0 B eD X) (cAA B) (c0 m J (N, u)) (cdec d)) : CRep (cE0 B eD X) (cAA B) (c0 m J (N, u)) (f, N, u) := by
  refine ⟨fun n hn => ?_, fun n n' hn hn' e => ?_, fun a x hx => ?_, rfl, fun cl i f a h => absurd h List.not_mem_nil, hD, fun cl i f _ _ => ?_⟩
  · obtain ⟨d, h1, h2, h3⟩ := c0_dec (B := B) (eD := eD) (X := X) hn
    rw [h2]
    refine ⟨?_, by show B + d < N; omega⟩
    show f (B + d) = _
    rw [hf d h1, h3]
  · obtain ⟨d, h1, h2, h3⟩ := c0_dec (B := B) (eD := eD) (X := X) hn
    obtain ⟨d', h1', h2', h3'⟩ := c0_dec (B := B) (eD := eD) (X := X) hn'
    rw [h2, h2'] at e
    rw [← h3, ← h3', Nat.add_left_cancel e]
  · obtain ⟨k1, k2, k3⟩ := hX a x hx
    refine ⟨k1, k2, fun n hn e => ?_⟩
    obtain ⟨d, h1, h2, h3⟩ := c0_dec (B := B) (eD := eD) (X := X) hn
    rw [h2] at e
    omega
  · refine ⟨Nat.zero_le _, ?_⟩
    show c0L cl i f ≤ 200000
    unfold c0L
    repeat' split
    all_goals omega
/-- a heap seen otherwise where nobody looks -/
theorem arrV_eq {d : ClassId} {n : Nat} {f g : Nat → Value} (h : ∀ j, j < n → f j = g j) : arrV d n f = arrV d n g := by
  unfold arrV
  congr 1
  refine Array.ext (by simp) (fun i h1 h2 => ?_)
  simp only [Array.size_ofFn] at h1
  simp [h i h1]
theorem xRp_eq {G0 : Heap} {D : va_G} {dA : Nat → ClassId} {base : Nat} {f f' : Nat → xC} {T : Nat × Nat} {H : Heap} (hR : xRp G0 D dA base (f, T) H) (he : ∀ a, f a = f' a ∨ xeqv (f a) (f' a)) : xRp G0 D dA base (f', T) H := by
  refine ⟨hR.1, fun a ha => ?_, hR.2.2⟩
  have ha : (f' a).1 ≠ 0 := ha
  show xcellR D dA base a (f' a) H
  rcases he a with e | ⟨e1, e2, e3, e4⟩
  · rw [← e] at ha ⊢
    exact hR.2.1 a ha
  · have h1 := hR.2.1 a (by show (f a).1 ≠ 0; rw [e1]; exact ha)
    have h1 : xcellR D dA base a (f a) H := h1
    rcases h1 with ⟨a1, a2, a3, a4⟩ | ⟨a1, a2, a3, a4, a5⟩ | ⟨a1, scr, a2, a3, a4, a5, a6, a7⟩
    · refine Or.inl ⟨by omega, by omega, a3, ?_⟩
      rw [← e1]
      exact a4.to (fun k hk => e4 k (Nat.lt_of_lt_of_le hk (e3 a2)))
    · refine Or.inr (Or.inl ⟨by omega, by omega, a3, ?_, ?_⟩)
      · rw [a4, e1, e2]
        exact congrArg some (arrV_eq (fun j hj => e4 j (by rw [e2]; exact hj)))
      · intro j hj
        rw [← e1, ← e4 j (by rw [e2]; exact hj)]
        exact a5 j (by rw [e2]; exact hj)
    · refine Or.inr (Or.inr ⟨by rw [← e1, ← e2]; exact a1, scr, a2, a3, a4, by rw [← e1]; exact a5, by rw [a6, e2], fun j hj => ?_⟩)
      rw [a7 j (by rw [e2]; exact hj), e4 j (by rw [e2]; exact hj)]
/-- the law's cell(script, k) -/
theorem lcell_ok {pF : Nat → List Value → xH → Option (Option Value × xH)} (hp : ∀ as h, pF 385 as h = none) {d b L k : Nat} {xs : Nat → Int32} {h : xH} (hS : lwS h b L xs) (hL : L ≤ 3074) (hk : k ≤ 3) : xCo pF (d + 1) 385 [.ref b, .int (Int32.ofNat k)] h (some (.int (if k < L then xs k else 0))) h := by
  obtain ⟨n1, n2⟩ := y_ofn (n := k) (by omega)
  refine xCo_R (k := kT385) (o := 17) (ml := 2) (n := 2) (ret := some .int) rfl rfl (by decide +kernel) (bytes := cL_cell) rfl (Nat.le_of_ble_eq_true rfl) (hp _ _) ?_
  have l0 : xAt kT385 0 (.iload_n 1) 1 := ⟨1, rfl, Or.inr rfl, rfl⟩
  have l1 : xAt kT385 1 (.aload_n 0) 2 := ⟨1, rfl, Or.inr rfl, rfl⟩
  have l2 : xAt kT385 2 .arraylength 3 := ⟨1, rfl, Or.inr rfl, rfl⟩
  have l3 : xAt kT385 3 (.if_icmp .ge 9) 6 := ⟨3, rfl, Or.inr rfl, rfl⟩
  have l6 : xAt kT385 6 (.aload_n 0) 7 := ⟨1, rfl, Or.inr rfl, rfl⟩
  have l7 : xAt kT385 7 (.iload_n 1) 8 := ⟨1, rfl, Or.inr rfl, rfl⟩
  have l8 : xAt kT385 8 .iaload 9 := ⟨1, rfl, Or.inr rfl, rfl⟩
  have l9 : xAt kT385 9 (.goto 4) 12 := ⟨3, rfl, Or.inr rfl, rfl⟩
  have l12 : xAt kT385 12 (.iconst 0) 13 := ⟨1, rfl, Or.inr rfl, rfl⟩
  have l13 : xAt kT385 13 .ireturn 14 := ⟨1, rfl, Or.inr rfl, rfl⟩
  refine eE_iload_n l0 (x := Int32.ofNat k) rfl ?_
  refine eE_aload_n l1 (x := b) rfl ?_
  refine eE_alen l2 (by rw [hS.1]; decide) ?_
  rw [hS.2.1]
  refine eE_icmp (t := 12) l3 (by decide) (fun q => ?_) (fun q => ?_)
  · have q1 : L ≤ k := (y_ge (x := k) (y := L) (by omega) (by omega)).mp q
    rw [if_neg (by omega)]
    refine eE_iconst (v := 0) l12 (by decide) ?_
    exact eE_end l13 rfl rfl rfl
  · have q1 : k < L := Nat.lt_of_not_le fun z => q ((y_ge (x := k) (y := L) (by omega) (by omega)).mpr z)
    rw [if_pos q1]
    refine eE_aload_n l6 (x := b) rfl ?_
    refine eE_iload_n l7 (x := Int32.ofNat k) rfl ?_
    refine xE_p (lv' := lv_args 0 [.ref b, .int (Int32.ofNat k)]) (pc' := 9) (st' := [.int (xs k)]) l8 rfl (fun len h1 h2 => ?_) ?_
    · obtain rfl : len = 1 := by simp only [xlen] at h2; omega
      have hb : ¬ (Int32.ofNat k < 0 ∨ L ≤ k) := fun z => z.elim n2 (fun z => by omega)
      simp [xpure, xald, hS.1, hS.2.1, n1, hb, hS.2.2 k q1]
    refine eE_goto (t := 13) l9 (by decide) ?_
    exact eE_end l13 rfl rfl rfl
