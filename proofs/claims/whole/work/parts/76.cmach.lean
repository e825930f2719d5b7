/-! constructors with loops over their arrays -/
section CM
variable {pF : Nat → List Value → xH → Option (Option Value × xH)} {d : Nat} {k : xK} {o nL : Nat} {ini : Bool} {ret : Option FieldType} {rr : Option Value} {hh : xH} {pc np : Nat} {lv : xL} {st : List Value} {G : Nat → xC} {a : Nat} {l : List xC} {H : Nat × Nat}
theorem bE_get {idx ci f i : Nat} {v : Value} {x : xC} (hl : xAt k pc (.getfield idx) np) (hf : xfR o idx = some (ci, f)) (hx : l[i]? = some x) (ht : x.1 = ci + 1) (hv : x.2.2 f = v) (kk : xR pF d k o nL ini ret rr hh (np, lv, v :: st, (hbl G a l, H))) : xR pF d k o nL ini ret rr hh (pc, lv, .ref (a + i) :: st, (hbl G a l, H)) := by
  have e : hbl G a l (a + i) = x := hbl_in hx
  refine xE_p hl rfl (fun len h1 h2 => ?_) kk
  obtain rfl : len = 3 := by simp only [xlen] at h2; omega
  subst h1
  subst hv
  simp [xpure, xgetf, hf, e, ht]
theorem bE_iast {i : Nat} {j v : Int32} {x : xC} (hl : xAt k pc .iastore np) (hx : l[i]? = some x) (ht : x.1 = 20) (hj : ¬ (j < 0 ∨ x.2.1 ≤ j.toNatClampNeg)) (kk : xR pF d k o nL ini ret rr hh (np, lv, st, (hbl G a (l.set i (x.1, x.2.1, updV x.2.2 j.toNatClampNeg (.int v))), H))) :
    xR pF d k o nL ini ret rr hh (pc, lv, .int v :: .int j :: .ref (a + i) :: st, (hbl G a l, H)) := by
  have e : hbl G a l (a + i) = x := hbl_in hx
  have hi := (List.getElem?_eq_some_iff.mp hx).1
  refine xE_m (h' := (hbl G a (l.set i (x.1, x.2.1, updV x.2.2 j.toNatClampNeg (.int v))), H)) hl rfl (fun len => by simp [xpure]) ?_ kk
  obtain ⟨len, -, h2, h3⟩ := hl
  obtain rfl : len = 1 := by simp only [xlen] at h2; omega
  subst h3
  simp only [xmem, xast, e, ht, if_neg hj, if_true]
  rw [← hbl_set hi]
  try rw [ht]
/-- the places below n hold their numbers -/
def idf (n : Nat) : Nat → Value := fun y => if y < n then .int (Int32.ofNat y) else .int 0
theorem idf_0 : idf 0 = fun _ => .int 0 := rfl
theorem idf_s (n : Nat) : updV (idf n) n (.int (Int32.ofNat n)) = idf (n + 1) := by
  funext y
  show (if y = n then _ else if y < n then _ else _) = (if y < n + 1 then _ else _)
  by_cases h : y = n
  · rw [if_pos h, if_pos (by omega), h]
  · rw [if_neg h]
    by_cases h2 : y < n
    · rw [if_pos h2, if_pos (by omega)]
    · rw [if_neg h2, if_neg (by omega)]
end CM
theorem yl84_0 : xAt kT84 0 (.aload_n 0) 1 := ⟨1, rfl, Or.inr rfl, rfl⟩
theorem yl84_1 : xAt kT84 1 (.invokespecial 3) 4 := ⟨3, rfl, Or.inr rfl, rfl⟩
theorem yl84_4 : xAt kT84 4 (.aload_n 0) 5 := ⟨1, rfl, Or.inr rfl, rfl⟩
theorem yl84_5 : xAt kT84 5 (.bipush 80) 7 := ⟨2, rfl, Or.inr rfl, rfl⟩
theorem yl84_7 : xAt kT84 7 (.newarray .int) 9 := ⟨2, rfl, Or.inr rfl, rfl⟩
theorem yl84_9 : xAt kT84 9 (.putfield 11) 12 := ⟨3, rfl, Or.inr rfl, rfl⟩
theorem yl84_12 : xAt kT84 12 (.aload_n 0) 13 := ⟨1, rfl, Or.inr rfl, rfl⟩
theorem yl84_13 : xAt kT84 13 (.sipush 1616) 16 := ⟨3, rfl, Or.inr rfl, rfl⟩
theorem yl84_16 : xAt kT84 16 (.newarray .byte) 18 := ⟨2, rfl, Or.inr rfl, rfl⟩
theorem yl84_18 : xAt kT84 18 (.putfield 15) 21 := ⟨3, rfl, Or.inr rfl, rfl⟩
theorem yl84_21 : xAt kT84 21 (.aload_n 0) 22 := ⟨1, rfl, Or.inr rfl, rfl⟩
theorem yl84_22 : xAt kT84 22 (.sipush 128) 25 := ⟨3, rfl, Or.inr rfl, rfl⟩
theorem yl84_25 : xAt kT84 25 (.newarray .int) 27 := ⟨2, rfl, Or.inr rfl, rfl⟩
theorem yl84_27 : xAt kT84 27 (.putfield 19) 30 := ⟨3, rfl, Or.inr rfl, rfl⟩
theorem yl84_30 : xAt kT84 30 (.aload_n 0) 31 := ⟨1, rfl, Or.inr rfl, rfl⟩
theorem yl84_31 : xAt kT84 31 (.sipush 128) 34 := ⟨3, rfl, Or.inr rfl, rfl⟩
theorem yl84_34 : xAt kT84 34 (.newarray .int) 36 := ⟨2, rfl, Or.inr rfl, rfl⟩
theorem yl84_36 : xAt kT84 36 (.putfield 22) 39 := ⟨3, rfl, Or.inr rfl, rfl⟩
theorem yl84_39 : xAt kT84 39 (.aload_n 0) 40 := ⟨1, rfl, Or.inr rfl, rfl⟩
theorem yl84_40 : xAt kT84 40 (.sipush 128) 43 := ⟨3, rfl, Or.inr rfl, rfl⟩
theorem yl84_43 : xAt kT84 43 (.newarray .int) 45 := ⟨2, rfl, Or.inr rfl, rfl⟩
theorem yl84_45 : xAt kT84 45 (.putfield 25) 48 := ⟨3, rfl, Or.inr rfl, rfl⟩
theorem yl84_48 : xAt kT84 48 (.aload_n 0) 49 := ⟨1, rfl, Or.inr rfl, rfl⟩
theorem yl84_49 : xAt kT84 49 (.sipush 16896) 52 := ⟨3, rfl, Or.inr rfl, rfl⟩
theorem yl84_52 : xAt kT84 52 (.newarray .byte) 54 := ⟨2, rfl, Or.inr rfl, rfl⟩
theorem yl84_54 : xAt kT84 54 (.putfield 28) 57 := ⟨3, rfl, Or.inr rfl, rfl⟩
theorem yl84_57 : xAt kT84 57 (.aload_n 0) 58 := ⟨1, rfl, Or.inr rfl, rfl⟩
theorem yl84_58 : xAt kT84 58 (.sipush 134) 61 := ⟨3, rfl, Or.inr rfl, rfl⟩
theorem yl84_61 : xAt kT84 61 (.newarray .byte) 63 := ⟨2, rfl, Or.inr rfl, rfl⟩
theorem yl84_63 : xAt kT84 63 (.putfield 31) 66 := ⟨3, rfl, Or.inr rfl, rfl⟩
theorem yl84_66 : xAt kT84 66 (.aload_n 0) 67 := ⟨1, rfl, Or.inr rfl, rfl⟩
theorem yl84_67 : xAt kT84 67 (.iconst 0) 68 := ⟨1, rfl, Or.inr rfl, rfl⟩
theorem yl84_68 : xAt kT84 68 (.newarray .byte) 70 := ⟨2, rfl, Or.inr rfl, rfl⟩
theorem yl84_70 : xAt kT84 70 (.putfield 34) 73 := ⟨3, rfl, Or.inr rfl, rfl⟩
theorem yl84_73 : xAt kT84 73 (.aload_n 0) 74 := ⟨1, rfl, Or.inr rfl, rfl⟩
theorem yl84_74 : xAt kT84 74 (.aload_n 1) 75 := ⟨1, rfl, Or.inr rfl, rfl⟩
theorem yl84_75 : xAt kT84 75 (.putfield 37) 78 := ⟨3, rfl, Or.inr rfl, rfl⟩
theorem yl84_78 : xAt kT84 78 (.iconst 0) 79 := ⟨1, rfl, Or.inr rfl, rfl⟩
theorem yl84_79 : xAt kT84 79 (.istore_n 2) 80 := ⟨1, rfl, Or.inr rfl, rfl⟩
theorem yl84_80 : xAt kT84 80 (.iload_n 2) 81 := ⟨1, rfl, Or.inr rfl, rfl⟩
theorem yl84_81 : xAt kT84 81 (.sipush 128) 84 := ⟨3, rfl, Or.inr rfl, rfl⟩
theorem yl84_84 : xAt kT84 84 (.if_icmp .ge 16) 87 := ⟨3, rfl, Or.inr rfl, rfl⟩
theorem yl84_87 : xAt kT84 87 (.aload_n 0) 88 := ⟨1, rfl, Or.inr rfl, rfl⟩
theorem yl84_88 : xAt kT84 88 (.getfield 19) 91 := ⟨3, rfl, Or.inr rfl, rfl⟩
theorem yl84_91 : xAt kT84 91 (.iload_n 2) 92 := ⟨1, rfl, Or.inr rfl, rfl⟩
theorem yl84_92 : xAt kT84 92 (.iload_n 2) 93 := ⟨1, rfl, Or.inr rfl, rfl⟩
theorem yl84_93 : xAt kT84 93 (.iastore) 94 := ⟨1, rfl, Or.inr rfl, rfl⟩
theorem yl84_94 : xAt kT84 94 (.iinc 2 1) 97 := ⟨3, rfl, Or.inr rfl, rfl⟩
theorem yl84_97 : xAt kT84 97 (.goto (-17)) 100 := ⟨3, rfl, Or.inr rfl, rfl⟩
theorem yl84_100 : xAt kT84 100 (.return_) 101 := ⟨1, rfl, Or.inr rfl, rfl⟩
section CN
variable {pF : Nat → List Value → xH → Option (Option Value × xH)} {d b u : Nat} {G : Nat → xC}
/-- the cells of a new Machine at b, k places of its order written -/
def c84_S (b l1 k : Nat) : List xC := [(11, (xCl 10).2.2, updV (updV (updV (updV (updV (updV (updV (updV (updV ((ocell 10).2.2) 2 (.ref (b + 1))) 3 (.ref (b + 2))) 6 (.ref (b + 3))) 7 (.ref (b + 4))) 8 (.ref (b + 5))) 9 (.ref (b + 6))) 10 (.ref (b + 7))) 14 (.ref (b + 8))) 0 (.ref l1)), (20, 80, fun _ => (.int 0)), (22, 1616, fun _ => (.int 0)), (20, 128, idf k), (20, 128, fun _ => (.int 0)), (20, 128, fun _ => (.int 0)), (22, 16896, fun _ => (.int 0)), (22, 134, fun _ => (.int 0)), (22, 0, fun _ => (.int 0))]
theorem c84_loop {l1 : Nat} {H : Nat × Nat} : ∀ m k lv, k + m = 128 → xg lv 0 = some (.ref b) → xg lv 2 = some (.int (Int32.ofNat k)) → xR pF d kT84 10 3 true none none (hbl G b (c84_S b l1 128), H) (80, lv, [], (hbl G b (c84_S b l1 k), H)) := by
  intro m
  induction m with
  | zero =>
    intro k lv hk g0 g2
    obtain rfl : k = 128 := by omega
    refine eE_iload_n yl84_80 g2 ?_
    refine eE_sipush (v := 128) yl84_81 (by decide +kernel) ?_
    refine eE_icmp (t := 100) yl84_84 (by decide) (fun _ => ?_) (fun q => absurd (by decide +kernel) q)
    exact eE_end yl84_100 rfl rfl rfl
  | succ m ih =>
    intro k lv hk g0 g2
    refine eE_iload_n yl84_80 g2 ?_
    refine eE_sipush (v := 128) yl84_81 (by decide +kernel) ?_
    refine eE_icmp (t := 100) yl84_84 (by decide) (fun q => ?_) (fun _ => ?_)
    · have := (y_ge (x := k) (y := 128) (by omega) (by omega)).mp q
      omega
    refine eE_aload_n yl84_87 g0 ?_
    rw [show (.ref b : Value) = .ref (b + 0) from rfl]
    refine bE_get (i := 0) (ci := 10) (f := 6) (v := .ref (b + 3)) yl84_88 (by decide +kernel) rfl rfl rfl ?_
    refine eE_iload_n yl84_91 g2 ?_
    refine eE_iload_n yl84_92 g2 ?_
    obtain ⟨n1, n2⟩ := y_ofn (n := k) (by omega)
    refine bE_iast (i := 3) (x := (20, 128, idf k)) yl84_93 rfl rfl (by rw [n1]; exact fun z => z.elim n2 (fun z => by have : (128 : Nat) ≤ k := z; omega)) ?_
    rw [n1, idf_s]
    refine eE_iinc (v := Int32.ofNat (k + 1)) yl84_94 g2 (by rw [← y_add]; rfl) (by decide) rfl ?_
    refine eE_goto (t := 80) yl84_97 (by decide) ?_
    exact ih (k + 1) _ (by omega) (xs1_keep.2 0 _ (by decide) (fun _ => rfl) g0) xs1_keep.1
set_option maxRecDepth 100000 in
theorem c84_ok (hp0 : xNPc pF) {l1 : Nat} : xCo pF (d + 1) 84 [.ref b, .ref l1] (hbl G b [ocell 10], b + 1, u) none (hbl G b (c84_S b l1 128), b + 9, u + 80 + 1616 + 128 + 128 + 128 + 16896 + 134 + 0) := by
  refine xCo_Ri (k := kT84) (o := 10) (ml := 3) (n := 1) (ret := none) rfl rfl (by decide +kernel) (bytes := cX6_init) rfl (Nat.le_of_ble_eq_true rfl) (hp0 84 (by decide) _ _) ?_
  refine eE_aload_n yl84_0 (x := b) rfl ?_
  refine eE_obj yl84_1 (by decide +kernel) (by decide +kernel) (by decide +kernel) (Nat.le_of_ble_eq_true rfl) ?_
  refine eE_aload_n yl84_4 (x := b) rfl ?_
  rw [show (.ref b : Value) = .ref (b + 0) from rfl]
  refine eE_bipush (v := 80) yl84_5 (by decide +kernel) ?_
  refine bE_newa (N := 1) (j := 0) (m := 80) (dv := (.int 0)) yl84_7 rfl ⟨by decide +kernel, by decide +kernel, by decide⟩ rfl rfl ?_
  refine bE_put (i := 0) (ci := 10) (f := 2) (ty := (.array .int)) yl84_9 (by decide +kernel) rfl rfl (by decide +kernel) (Or.inr ⟨rfl, by decide +kernel⟩) (by decide +kernel) rfl ?_
  refine eE_aload_n yl84_12 (x := b) rfl ?_
  rw [show (.ref b : Value) = .ref (b + 0) from rfl]
  refine eE_sipush (v := 1616) yl84_13 (by decide +kernel) ?_
  refine bE_newa (N := 2) (j := 2) (m := 1616) (dv := (.int 0)) yl84_16 rfl ⟨by decide +kernel, by decide +kernel, by decide⟩ rfl rfl ?_
  refine bE_put (i := 0) (ci := 10) (f := 3) (ty := (.array .byte)) yl84_18 (by decide +kernel) rfl rfl (by decide +kernel) (Or.inr ⟨rfl, by decide +kernel⟩) (by decide +kernel) rfl ?_
  refine eE_aload_n yl84_21 (x := b) rfl ?_
  rw [show (.ref b : Value) = .ref (b + 0) from rfl]
  refine eE_sipush (v := 128) yl84_22 (by decide +kernel) ?_
  refine bE_newa (N := 3) (j := 0) (m := 128) (dv := (.int 0)) yl84_25 rfl ⟨by decide +kernel, by decide +kernel, by decide⟩ rfl rfl ?_
  refine bE_put (i := 0) (ci := 10) (f := 6) (ty := (.array .int)) yl84_27 (by decide +kernel) rfl rfl (by decide +kernel) (Or.inr ⟨rfl, by decide +kernel⟩) (by decide +kernel) rfl ?_
  refine eE_aload_n yl84_30 (x := b) rfl ?_
  rw [show (.ref b : Value) = .ref (b + 0) from rfl]
  refine eE_sipush (v := 128) yl84_31 (by decide +kernel) ?_
  refine bE_newa (N := 4) (j := 0) (m := 128) (dv := (.int 0)) yl84_34 rfl ⟨by decide +kernel, by decide +kernel, by decide⟩ rfl rfl ?_
  refine bE_put (i := 0) (ci := 10) (f := 7) (ty := (.array .int)) yl84_36 (by decide +kernel) rfl rfl (by decide +kernel) (Or.inr ⟨rfl, by decide +kernel⟩) (by decide +kernel) rfl ?_
  refine eE_aload_n yl84_39 (x := b) rfl ?_
  rw [show (.ref b : Value) = .ref (b + 0) from rfl]
  refine eE_sipush (v := 128) yl84_40 (by decide +kernel) ?_
  refine bE_newa (N := 5) (j := 0) (m := 128) (dv := (.int 0)) yl84_43 rfl ⟨by decide +kernel, by decide +kernel, by decide⟩ rfl rfl ?_
  refine bE_put (i := 0) (ci := 10) (f := 8) (ty := (.array .int)) yl84_45 (by decide +kernel) rfl rfl (by decide +kernel) (Or.inr ⟨rfl, by decide +kernel⟩) (by decide +kernel) rfl ?_
  refine eE_aload_n yl84_48 (x := b) rfl ?_
  rw [show (.ref b : Value) = .ref (b + 0) from rfl]
  refine eE_sipush (v := 16896) yl84_49 (by decide +kernel) ?_
  refine bE_newa (N := 6) (j := 2) (m := 16896) (dv := (.int 0)) yl84_52 rfl ⟨by decide +kernel, by decide +kernel, by decide⟩ rfl rfl ?_
  refine bE_put (i := 0) (ci := 10) (f := 9) (ty := (.array .byte)) yl84_54 (by decide +kernel) rfl rfl (by decide +kernel) (Or.inr ⟨rfl, by decide +kernel⟩) (by decide +kernel) rfl ?_
  refine eE_aload_n yl84_57 (x := b) rfl ?_
  rw [show (.ref b : Value) = .ref (b + 0) from rfl]
  refine eE_sipush (v := 134) yl84_58 (by decide +kernel) ?_
  refine bE_newa (N := 7) (j := 2) (m := 134) (dv := (.int 0)) yl84_61 rfl ⟨by decide +kernel, by decide +kernel, by decide⟩ rfl rfl ?_
  refine bE_put (i := 0) (ci := 10) (f := 10) (ty := (.array .byte)) yl84_63 (by decide +kernel) rfl rfl (by decide +kernel) (Or.inr ⟨rfl, by decide +kernel⟩) (by decide +kernel) rfl ?_
  refine eE_aload_n yl84_66 (x := b) rfl ?_
  rw [show (.ref b : Value) = .ref (b + 0) from rfl]
  refine eE_iconst (v := 0) yl84_67 (by decide +kernel) ?_
  refine bE_newa (N := 8) (j := 2) (m := 0) (dv := (.int 0)) yl84_68 rfl ⟨by decide +kernel, by decide +kernel, by decide⟩ rfl rfl ?_
  refine bE_put (i := 0) (ci := 10) (f := 14) (ty := (.array .byte)) yl84_70 (by decide +kernel) rfl rfl (by decide +kernel) (Or.inr ⟨rfl, by decide +kernel⟩) (by decide +kernel) rfl ?_
  refine eE_aload_n yl84_73 (x := b) rfl ?_
  rw [show (.ref b : Value) = .ref (b + 0) from rfl]
  refine eE_aload_n yl84_74 (x := l1) rfl ?_
  refine bE_put (i := 0) (ci := 10) (f := 0) (ty := (.object "AgreedStore$Askings")) yl84_75 (by decide +kernel) rfl rfl (by decide +kernel) (Or.inr ⟨rfl, by decide +kernel⟩) (by decide +kernel) rfl ?_
  refine eE_iconst (v := 0) yl84_78 (by decide) ?_
  refine eE_stI (j := 2) yl84_79 (Or.inr ⟨2, rfl, rfl⟩) (by decide) (fun lv1 q2 k2 => ?_)
  exact c84_loop 128 0 lv1 rfl (k2 0 _ (by decide) (fun _ => rfl) rfl) q2
end CN
