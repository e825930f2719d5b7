/-! Arrays.fill over a block of new cells -/
section CF
variable {pF : Nat → List Value → xH → Option (Option Value × xH)} {d : Nat} {G : Nat → xC} {a : Nat} {H : Nat × Nat} {v : Int32}
def bfl (A : Nat → Value) (v : Int32) (b : Nat) : Nat → Value := fun y => if y < b then .int v else A y
theorem bfl_s {A : Nat → Value} {b : Nat} : updV (bfl A v b) b (.int v) = bfl A v (b + 1) := by
  funext y
  show (if y = b then _ else if y < b then _ else _) = (if y < b + 1 then _ else _)
  by_cases h : y = b
  · rw [if_pos h, if_pos (by omega)]
  · rw [if_neg h]
    by_cases h2 : y < b
    · rw [if_pos h2, if_pos (by omega)]
    · rw [if_neg h2, if_neg (by omega)]
theorem b_fill (hp : ∀ as h, pF 393 as h = none) {i n : Nat} {l : List xC} {A : Nat → Value} (hx : l[i]? = some (20, n, A)) (hn : n ≤ 1000000) :
    xCo pF (d + 1) 393 [.ref (a + i), .int v] (hbl G a l, H) none (hbl G a (l.set i (20, n, bfl A v n)), H) := by
  have hi := (List.getElem?_eq_some_iff.mp hx).1
  have loop : ∀ m b lv, b + m = n → xg lv 0 = some (.ref (a + i)) → xg lv 1 = some (.int v) → xg lv 2 = some (.int (Int32.ofNat b)) → xg lv 3 = some (.int (Int32.ofNat n)) →
      xR pF d kT393 18 4 false none none (hbl G a (l.set i (20, n, bfl A v n)), H) (5, lv, [], (hbl G a (l.set i (20, n, bfl A v b)), H)) := by
    intro m
    induction m with
    | zero =>
      intro b lv hb g0 g1 g2 g3
      refine eE_iload_n yl393_5 g2 ?_
      refine eE_iload_n yl393_6 g3 ?_
      refine eE_icmp (t := 20) yl393_7 (by decide) (fun _ => ?_) (fun q => absurd ((y_ge (by omega) (by omega)).mpr (by omega)) q)
      rw [show b = n by omega]
      exact eE_end yl393_20 rfl rfl rfl
    | succ m ih =>
      intro b lv hb g0 g1 g2 g3
      refine eE_iload_n yl393_5 g2 ?_
      refine eE_iload_n yl393_6 g3 ?_
      refine eE_icmp (t := 20) yl393_7 (by decide) (fun q => ?_) (fun _ => ?_)
      · have := (y_ge (by omega) (by omega)).mp q
        omega
      refine eE_aload_n yl393_10 g0 ?_
      refine eE_iload_n yl393_11 g2 ?_
      refine eE_iload_n yl393_12 g1 ?_
      obtain ⟨n1, n2⟩ := y_ofn (n := b) (by omega)
      refine bE_iast (i := i) (x := (20, n, bfl A v b)) yl393_13 (by rw [List.getElem?_set_self hi]) rfl (by rw [n1]; exact fun z => z.elim n2 (fun z => by have : n ≤ b := z; omega)) ?_
      rw [n1, bfl_s, List.set_set]
      refine eE_iinc (v := Int32.ofNat (b + 1)) yl393_14 g2 (by rw [← y_add]; rfl) (by decide) rfl ?_
      refine eE_goto (t := 5) yl393_17 (by decide) ?_
      exact ih (b + 1) _ (by omega) (xs1_keep.2 0 _ (by decide) (fun _ => rfl) g0) (xs1_keep.2 1 _ (by decide) (fun _ => rfl) g1) xs1_keep.1 (xs1_keep.2 3 _ (by decide) (fun _ => rfl) g3)
  refine xCo_R ykk_393 ymo_393 yni_393 yxm_393 (Nat.le_of_ble_eq_true rfl) (hp _ _) ?_
  refine eE_iconst (v := 0) yl393_0 (by decide) ?_
  refine eE_stI (j := 2) yl393_1 (Or.inr ⟨2, rfl, rfl⟩) (by decide) (fun lv1 q2 k2 => ?_)
  have g0 : xg lv1 0 = some (.ref (a + i)) := k2 0 _ (by decide) (fun _ => rfl) rfl
  have g1 : xg lv1 1 = some (.int v) := k2 1 _ (by decide) (fun _ => rfl) rfl
  refine eE_aload_n yl393_2 g0 ?_
  have e : hbl G a l (a + i) = (20, n, A) := hbl_in hx
  refine eE_alen yl393_3 (by show 20 ≤ (hbl G a l (a + i)).1; rw [e]; exact Nat.le_of_ble_eq_true rfl) ?_
  rw [show ((hbl G a l, H) : xH).1 (a + i) = (20, n, A) from e]
  refine eE_stI (j := 3) yl393_4 (Or.inr ⟨3, rfl, rfl⟩) (by decide) (fun lv2 q3 k3 => ?_)
  have := loop n 0 lv2 (by omega) (k3 0 _ (by decide) (fun _ => rfl) g0) (k3 1 _ (by decide) (fun _ => rfl) g1) (k3 2 _ (by decide) (fun _ => rfl) q2) q3
  have e0 : l.set i (20, n, bfl A v 0) = l := by
    have e1 : bfl A v 0 = A := rfl
    obtain ⟨h1, h2⟩ := List.getElem?_eq_some_iff.mp hx
    rw [e1, ← h2]
    exact List.set_getElem_self h1
  rw [e0] at this
  exact this
end CF
