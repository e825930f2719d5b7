/-! a new object of the reference -/
theorem r16b0 (q : Nat) : TX12 (q + 147) = TX12 146 := by simp [TX12]
theorem r16b (q : Nat) : xfty 16 (q + 147) = some .int := by
  show parseFieldDescriptor (TX12 (q + 147)).2.2.1 = _
  rw [r16b0]
  decide +kernel
def r_fty (f : Nat) : Bool := match rK f, xfty 16 f with
  | 0, some .int => true
  | 0, some .boolean => true
  | 1, some .long => true
  | 2, some (.array _) => true
  | _, _ => false
theorem r_fty_ok : ∀ f, f < 147 → r_fty f = true := by decide +kernel
theorem r_new {aR : Nat} {G : Nat → xC} : xset G aR (16 + 1, (xCl 16).2.2, fun k => match xfty 16 k with
        | some ty => defaultValue ty
        | none => .null) = rin aR 0 G := by
  funext a
  by_cases q : a = aR
  · rw [q, rin_at]
    show (if aR = aR then _ else _) = _
    rw [if_pos rfl]
    refine Prod.ext rfl (Prod.ext rfl ?_)
    funext f
    show (match xfty 16 f with
        | some ty => defaultValue ty
        | none => .null) = (if rK f = 0 then _ else if rK f = 1 then _ else if rpos f ≤ 0 then _ else _)
    by_cases z : f < 147
    · have h := r_fty_ok f z
      unfold r_fty at h
      split at h
      next e1 e2 => rw [e1, e2]; rfl
      next e1 e2 => rw [e1, e2]; rfl
      next e1 e2 => rw [e1, e2]; rfl
      next e1 e2 =>
        have := (r_ok f z e1).1
        rw [e1, e2]
        show Value.null = (if rpos f ≤ 0 then _ else _)
        rw [if_neg (by omega)]
      next => cases h
    · obtain ⟨k, rfl⟩ : ∃ k, f = k + 147 := ⟨f - 147, by omega⟩
      rw [r16b]
      have e1 : rTab[k + 147]? = none := List.getElem?_eq_none (by have : rTab.length = 147 := rfl
                                                                   omega)
      have e2 : rK (k + 147) = 0 := by
        unfold rK
        rw [List.getD_eq_getElem?_getD, e1]
        rfl
      rw [e2]
      rfl
  · rw [rin_out q (by omega)]
    show (if a = aR then _ else _) = _
    rw [if_neg q]
/-- the memory of a new object of the reference -/
def m_init (F : Nat) (l1 : Int32) (l2 : Int64) : Option RS := m_init_b1028 F rZ l1 l2
set_option maxRecDepth 100000 in
theorem m_init_ok {pF : Nat → List Value → xH → Option (Option Value × xH)} (hp0 : xNP pF) {d aR u : Nat} {G : Nat → xC} {F : Nat} {l1 : Int32} {l2 : Int64} {res : RS} (h : m_init F l1 l2 = some res) :
    xCo pF (d + 3) 297 [.ref aR, .int l1, .long l2] (rin aR 0 G, aR + 1, u) none (layR aR res G, aR + 123, u + rsl 122) := by
  refine xCo_Ri (k := kT297) (o := 16) (ml := 6) (n := 2) (ret := none) rfl rfl (by decide +kernel) (bytes := cX12_init) rfl (Nat.le_of_ble_eq_true rfl) (hp0 297 (by decide) (by decide) _ _) ?_
  refine eE_aload_n yl297_0 (x := aR) rfl ?_
  refine eE_obj yl297_1 (by decide +kernel) (by decide +kernel) (by decide +kernel) (Nat.le_of_ble_eq_true rfl) ?_
  refine r_allocs (u := u) rfl ?_
  exact m_init_b1028_ok (d := d) hp0 _ rZ l1 l2 rfl rfl rfl res h
