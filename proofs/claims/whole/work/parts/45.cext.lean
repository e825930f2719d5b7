/-! a field gets a longer copy of its array -/
def cext (c : CS) (cl i f : Nat) (n : Int32) : Option CS := if n < 0 ∨ 1000000 < n.toNatClampNeg ∨ n.toNatClampNeg ≤ cL c cl i f then none else some (csG c cl i f n.toNatClampNeg (fun y => if y < cL c cl i f then cI c cl i f y else 0))
section CXT
variable {E : CE} {Q : Nat → Bool} {pF : Nat → List Value → xH → Option (Option Value × xH)} {d : Nat} {k : xK} {o nL : Nat} {pc p1 np : Nat} {lv lv' : xL} {st : List Value} {ret : Option FieldType} {rr : Option Value} {cf c c' : CS} {g : CG}
theorem cR_cpyG390 {idx0 idx cl i f : Nat} {n : Int32} {fd : FieldType} (hl : xAt k pc (.invokestatic idx0) p1) (hl2 : xAt k p1 (.putfield idx) np) (hy : xmR o idx0 = some 390) (hcat : xcat (.ref (coa E cl i) :: st) ≤ 8) (hp0 : ∀ as h, pF 390 as h = none) (htg : ctag cl f = 20) (hf : xfR o idx = some (cl, f)) (hk : cK cl f = 3) (ho : cob c cl i) (hp : f < (xCl cl).2.2 ∧ ((xCl cl).2.1 f).2.2.2 = false ∧ xfty cl f = some (.array fd)) (hc' : cext c cl i f n = some c') (hQ : Q cl = false) (kk : ∀ g1, (∀ x, x ≠ cl → g1 x = g x) → cR E Q pF (d + 1) k o nL ret rr cf g1 c' (np, lv, st)) : cR E Q pF (d + 1) k o nL ret rr cf g c (pc, lv, .int n :: .ref (car E g cl i f) :: .ref (coa E cl i) :: st) := by
  obtain ⟨hn, rfl⟩ := cif_s hc'
  have n1 : ¬ n < 0 := fun z => hn (Or.inl z)
  have n2 : n.toNatClampNeg ≤ 1000000 := by omega
  have n3 : cL c cl i f < n.toNatClampNeg := by omega
  intro h hc
  obtain ⟨g', h', e1, e2, e3, e4⟩ := kk _ (cgs_ne g cl i f h.2.1) _ (CRep_grow (n := n.toNatClampNeg) (v := fun y => if y < cL c cl i f then cI c cl i f y else 0) hc hk (by omega) ho)
  refine ⟨g', h', e1, fun x hx => (e2 x hx).trans (cgs_ne g cl i f h.2.1 x (fun e => by rw [e, hQ] at hx; cases hx)), e3, ?_⟩
  have ha := CRep_arr hc ho (show cK cl f = 2 ∨ cK cl f = 3 ∨ cK cl f = 6 by omega)
  have hal : car E g cl i f < h.2.1 := (hc.1 _ (carr_lv ho (by omega))).2
  have hcal : cal c cl i f = cL c cl i f := by unfold cal; rw [if_pos hk]
  have hcc := xcopyOf_390 (d := d) (h := h) (b := car E g cl i f) (L := cL c cl i f) (n := n) (hp0 _ _) (by rw [ha]; exact htg) (by rw [ha]; exact hcal) (by omega) n3 n2 n1 hal rfl
  refine eE_stat (as := [.ref (car E g cl i f), .int n]) (st := .ref (coa E cl i) :: st) (n := 2) hl hy (by decide +kernel) rfl rfl hcat (by decide) (by decide +kernel) hcc ?_
  refine xE_m hl2 rfl (fun len => by simp [xpure]) ?_ e4
  obtain ⟨len, -, q2, q3⟩ := hl2
  obtain rfl : len = 3 := by simp only [xlen] at q2; omega
  subst q3
  have hlt : coa E cl i < h.2.1 := (hc.1 _ (cob_lv ho)).2
  have hne : coa E cl i ≠ h.2.1 := by omega
  have ev : va_cpy (h.1 (car E g cl i f)).2.2 (fun _ => Value.int 0) 0 0 (cL c cl i f) = fun j => .int (if j < cL c cl i f then cI c cl i f j else 0) := by
    rw [ha]
    funext j
    unfold va_cpy cav
    have z1 : ¬ cK cl f = 6 := by omega
    have z2 : ¬ ctag cl f = 21 := by omega
    by_cases q : j < cL c cl i f
    · simp [q, z1, z2]
    · simp [q]
  rw [ev]
  have e2 : ∀ x : xC, (xset h.1 h.2.1 x) (coa E cl i) = (cl + 1, cnf cl, cfv E g c cl i) := by
    intro x
    simp only [xset, if_neg hne, CRep_obj hc ho]
  simp only [xmem, hf, Option.toList, List.cons_append, List.nil_append, e2, hp.1, hp.2.1, hp.2.2, xfit, true_or, and_self, if_true, htg]
theorem cR_cpyG392 {idx0 idx cl i f : Nat} {n : Int32} {fd : FieldType} (hl : xAt k pc (.invokestatic idx0) p1) (hl2 : xAt k p1 (.putfield idx) np) (hy : xmR o idx0 = some 392) (hcat : xcat (.ref (coa E cl i) :: st) ≤ 8) (hp0 : ∀ as h, pF 392 as h = none) (htg : ctag cl f = 22) (hf : xfR o idx = some (cl, f)) (hk : cK cl f = 3) (ho : cob c cl i) (hp : f < (xCl cl).2.2 ∧ ((xCl cl).2.1 f).2.2.2 = false ∧ xfty cl f = some (.array fd)) (hc' : cext c cl i f n = some c') (hQ : Q cl = false) (kk : ∀ g1, (∀ x, x ≠ cl → g1 x = g x) → cR E Q pF (d + 1) k o nL ret rr cf g1 c' (np, lv, st)) : cR E Q pF (d + 1) k o nL ret rr cf g c (pc, lv, .int n :: .ref (car E g cl i f) :: .ref (coa E cl i) :: st) := by
  obtain ⟨hn, rfl⟩ := cif_s hc'
  have n1 : ¬ n < 0 := fun z => hn (Or.inl z)
  have n2 : n.toNatClampNeg ≤ 1000000 := by omega
  have n3 : cL c cl i f < n.toNatClampNeg := by omega
  intro h hc
  obtain ⟨g', h', e1, e2, e3, e4⟩ := kk _ (cgs_ne g cl i f h.2.1) _ (CRep_grow (n := n.toNatClampNeg) (v := fun y => if y < cL c cl i f then cI c cl i f y else 0) hc hk (by omega) ho)
  refine ⟨g', h', e1, fun x hx => (e2 x hx).trans (cgs_ne g cl i f h.2.1 x (fun e => by rw [e, hQ] at hx; cases hx)), e3, ?_⟩
  have ha := CRep_arr hc ho (show cK cl f = 2 ∨ cK cl f = 3 ∨ cK cl f = 6 by omega)
  have hal : car E g cl i f < h.2.1 := (hc.1 _ (carr_lv ho (by omega))).2
  have hcal : cal c cl i f = cL c cl i f := by unfold cal; rw [if_pos hk]
  have hcc := xcopyOf_392 (d := d) (h := h) (b := car E g cl i f) (L := cL c cl i f) (n := n) (hp0 _ _) (by rw [ha]; exact htg) (by rw [ha]; exact hcal) (by omega) n3 n2 n1 hal rfl
  refine eE_stat (as := [.ref (car E g cl i f), .int n]) (st := .ref (coa E cl i) :: st) (n := 2) hl hy (by decide +kernel) rfl rfl hcat (by decide) (by decide +kernel) hcc ?_
  refine xE_m hl2 rfl (fun len => by simp [xpure]) ?_ e4
  obtain ⟨len, -, q2, q3⟩ := hl2
  obtain rfl : len = 3 := by simp only [xlen] at q2; omega
  subst q3
  have hlt : coa E cl i < h.2.1 := (hc.1 _ (cob_lv ho)).2
  have hne : coa E cl i ≠ h.2.1 := by omega
  have ev : va_cpy (h.1 (car E g cl i f)).2.2 (fun _ => Value.int 0) 0 0 (cL c cl i f) = fun j => .int (if j < cL c cl i f then cI c cl i f j else 0) := by
    rw [ha]
    funext j
    unfold va_cpy cav
    have z1 : ¬ cK cl f = 6 := by omega
    have z2 : ¬ ctag cl f = 21 := by omega
    by_cases q : j < cL c cl i f
    · simp [q, z1, z2]
    · simp [q]
  rw [ev]
  have e2 : ∀ x : xC, (xset h.1 h.2.1 x) (coa E cl i) = (cl + 1, cnf cl, cfv E g c cl i) := by
    intro x
    simp only [xset, if_neg hne, CRep_obj hc ho]
  simp only [xmem, hf, Option.toList, List.cons_append, List.nil_append, e2, hp.1, hp.2.1, hp.2.2, xfit, true_or, and_self, if_true, htg]
end CXT
