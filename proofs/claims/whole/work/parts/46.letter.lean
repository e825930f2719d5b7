/-! a new letter -/
section XNW
variable {pF : Nat → List Value → xH → Option (Option Value × xH)} {d : Nat} {k : xK} {o nL : Nat} {ini : Bool} {pc np : Nat} {lv lv' : xL} {st : List Value} {h hh : xH} {ret : Option FieldType} {rr : Option Value}
theorem eE_obj {idx a : Nat} (hl : xAt k pc (.invokespecial idx) np) (h1 : xmR o idx = none) (h2 : xnR o idx = none) (h3 : xOb.contains (o, idx) = true) (hc : xcat st ≤ 8) (kk : xR pF d k o nL ini ret rr hh (np, lv, st, h)) : xR pF d k o nL ini ret rr hh (pc, lv, .ref a :: st, h) := by
  refine xE_m hl rfl (fun len => by simp [xpure]) ?_ kk
  obtain ⟨len, -, q2, q3⟩ := hl
  obtain rfl : len = 3 := by simp only [xlen] at q2; omega
  subst q3
  simp only [xmem, h1, h2, h3, if_true, if_pos hc]
theorem eE_init {idx y n b : Nat} {as : List Value} {h' : xH} {st0 : List Value} (hl : xAt k pc (.invokespecial idx) np) (hy : xmR o idx = some y ∨ (xmR o idx = none ∧ xnR o idx = some y)) (hn : xnargs y = n) (hst : st0 = as.reverse ++ .ref b :: st) (hlen : as.length = n) (hc : xcat st ≤ 8) (hw : xIn.contains y = true ∧ (xMn y).name = "<init>" ∧ xnoret y = true) (hcall : xCo pF d y (.ref b :: as) h none h') (kk : xR pF d k o nL ini ret rr hh (np, lv, st, h')) : xR pF d k o nL ini ret rr hh (pc, lv, st0, h) := by
  obtain ⟨len, h1, h2, h3⟩ := hl
  obtain rfl : len = 3 := by simp only [xlen] at h2; omega
  subst h3
  refine xR_c h1 rfl ?_ kk
  obtain ⟨N, hN⟩ := hcall
  refine ⟨N, fun F hF => ?_⟩
  have e1 : st0.drop n = .ref b :: st := by rw [hst, List.drop_left' (by rw [List.length_reverse]; exact hlen)]
  have e2 : (st0.take n).reverse = as := by rw [hst, List.take_left' (by rw [List.length_reverse]; exact hlen), List.reverse_reverse]
  have e3 : n ≤ st0.length := by rw [hst, List.length_append, List.length_reverse, hlen]; omega
  rcases hy with hy | ⟨hy1, hy2⟩
  · simp only [xop, if_pos h2, xpure, xmem, hy, xini, hn, e1, e2, e3, hw.1, hw.2.1, hw.2.2, and_self, if_true, xcall1, if_pos hc, hN F hF, Option.toList, List.nil_append]
  · simp only [xop, if_pos h2, xpure, xmem, hy1, hy2, xini, hn, e1, e2, e3, hw.1, hw.2.1, hw.2.2, and_self, if_true, xcall1, if_pos hc, hN F hF, Option.toList, List.nil_append]
theorem eE_new {idx ci : Nat} {h' : xH} (hl : xAt k pc (.new idx) np) (hx : xkR o idx = some ci) (hi : xIt.contains ci = true) (he : h' = (xset h.1 h.2.1 (ci + 1, (xCl ci).2.2, fun k => match xfty ci k with
        | some ty => defaultValue ty
        | none => .null), h.2.1 + 1, h.2.2 + (xCl ci).2.2)) (kk : xR pF d k o nL ini ret rr hh (np, lv, .ref h.2.1 :: st, h')) : xR pF d k o nL ini ret rr hh (pc, lv, st, h) := by
  subst he
  refine xE_m hl rfl (fun len => by simp [xpure]) ?_ kk
  obtain ⟨len, -, q2, q3⟩ := hl
  obtain rfl : len = 3 := by simp only [xlen] at q2; omega
  subst q3
  simp only [xmem, hx, hi, if_true]
  rfl
theorem eE_put {idx ci f a : Nat} {v : Value} {ty : FieldType} {h' : xH} (hl : xAt k pc (.putfield idx) np) (hf : xfR o idx = some (ci, f)) (ht : (h.1 a).1 = ci + 1) (hn : f < (xCl ci).2.2) (hfin : (((xCl ci).2.1 f).2.2.2 = false) ∨ (ini = true ∧ ((xCl ci).2.1 f).1 = xOwn o)) (hty : xfty ci f = some ty) (hv : xfit ty v = true) (he : h' = (xset h.1 a ((h.1 a).1, (h.1 a).2.1, updV (h.1 a).2.2 f v), h.2)) (kk : xR pF d k o nL ini ret rr hh (np, lv, st, h')) : xR pF d k o nL ini ret rr hh (pc, lv, v :: .ref a :: st, h) := by
  subst he
  refine xE_m hl rfl (fun len => by cases v <;> simp [xpure]) ?_ kk
  obtain ⟨len, -, q2, q3⟩ := hl
  obtain rfl : len = 3 := by simp only [xlen] at q2; omega
  subst q3
  simp only [xmem, hf, ht, hn, hty, hv, true_and, if_true]
  rw [if_pos hfin]
theorem xCo_Ri {y ml n : Nat} {bytes : ByteArray} {as : List Value} {h h' : xH} {r : Option Value} (hk : kkA y = k) (ho : moA y = o) (hi : decide ((xMn y).name = "<init>") = true) (hM : xM y = some (bytes, ml, ret, n)) (hlen : (lg_sl as).length ≤ ml) (hp : pF y as h = none)
    (hr : xR pF d k o ml true ret r h' (0, lv_args 0 as, [], h)) : xCo pF (d + 1) y as h r h' := by
  subst hk; subst ho
  obtain ⟨pc, lv, st, i, len, h1, h2, h3⟩ := hr
  rw [← hi] at h1
  exact xCo_of hM hlen hp h1 h2 h3
/-- the letter's constructor -/
theorem xLetter {b : Nat} {F : Nat → Value} {hf : xH} (hp : pF 61 [.ref b] h = none) (hb : h.1 b = (9, 20, F)) (hlt : b < h.2.1) (hF : hf = (xset (xset (xset h.1 b (9, 20, updV (updV F 18 (.ref h.2.1)) 19 (.ref (h.2.1 + 1)))) h.2.1 (20, 36, fun _ => .int 0)) (h.2.1 + 1) (22, 200, fun _ => .int 0), h.2.1 + 2, h.2.2 + 236)) : xCo pF (d + 1) 61 [.ref b] h none hf := by
  have n1 : b ≠ h.2.1 := by omega
  have n2 : b ≠ h.2.1 + 1 := by omega
  refine xCo_Ri (k := kT61) (o := 8) (ml := 1) (n := 0) (bytes := cX4_init) (ret := none) rfl rfl (by decide +kernel) rfl (Nat.le_of_ble_eq_true rfl) hp ?_
  refine eE_aload_n (j := 0) (np := 1) ⟨1, rfl, Or.inr rfl, rfl⟩ rfl ?_
  refine eE_obj (np := 4) ⟨3, rfl, Or.inr rfl, rfl⟩ (by decide +kernel) (by decide +kernel) (by decide +kernel) (by decide) ?_
  refine eE_aload_n (j := 0) (np := 5) ⟨1, rfl, Or.inr rfl, rfl⟩ rfl ?_
  refine eE_bipush (v := 36) (np := 7) ⟨2, rfl, Or.inr rfl, rfl⟩ (by decide) ?_
  refine eE_newa (t := .int) (j := 0) (np := 9) (h' := (xset h.1 h.2.1 (20, 36, fun _ => .int 0), h.2.1 + 1, h.2.2 + 36)) ⟨2, rfl, Or.inr rfl, rfl⟩ rfl ⟨by decide, by decide⟩ rfl ?_
  refine eE_put (ci := 8) (f := 18) (np := 12) (ty := .array .int) (h' := (xset (xset h.1 h.2.1 (20, 36, fun _ => .int 0)) b (9, 20, updV F 18 (.ref h.2.1)), h.2.1 + 1, h.2.2 + 36)) ⟨3, rfl, Or.inr rfl, rfl⟩ (by decide +kernel) (by simp only [xset, if_neg n1, hb]) (by decide +kernel) (Or.inr ⟨rfl, by decide +kernel⟩) (by decide +kernel) rfl (by simp only [xset, if_neg n1, hb]) ?_
  refine eE_aload_n (j := 0) (np := 13) ⟨1, rfl, Or.inr rfl, rfl⟩ rfl ?_
  refine eE_sipush (v := 200) (np := 16) ⟨3, rfl, Or.inr rfl, rfl⟩ (by decide) ?_
  refine eE_newa (t := .byte) (j := 2) (np := 18) (h' := (xset (xset (xset h.1 h.2.1 (20, 36, fun _ => .int 0)) b (9, 20, updV F 18 (.ref h.2.1))) (h.2.1 + 1) (22, 200, fun _ => .int 0), h.2.1 + 2, h.2.2 + 236)) ⟨2, rfl, Or.inr rfl, rfl⟩ rfl ⟨by decide, by decide⟩ rfl ?_
  refine eE_put (ci := 8) (f := 19) (np := 21) (ty := .array .byte) (h' := hf) ⟨3, rfl, Or.inr rfl, rfl⟩ (by decide +kernel) (by simp only [xset, if_neg n2, if_true]) (by decide +kernel) (Or.inr ⟨rfl, by decide +kernel⟩) (by decide +kernel) rfl ?_ ?_
  · rw [hF]
    simp only [Prod.mk.injEq, and_true]
    funext q
    by_cases q1 : q = b
    · subst q1
      simp only [xset, if_neg n1, if_neg n2, if_true]
    · simp only [xset, if_neg q1]
  exact eE_end (np := 22) ⟨1, rfl, Or.inr rfl, rfl⟩ rfl rfl rfl
end XNW
