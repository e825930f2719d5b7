/-! World's constructor (printed by wip/whole/gen_cworld.py) -/
section CW1
variable {pF : Nat → List Value → xH → Option (Option Value × xH)} {d : Nat} {k : xK} {o nL : Nat} {ini : Bool} {ret : Option FieldType} {rr : Option Value} {hh : xH} {pc np : Nat} {lv : xL} {st : List Value} {G : Nat → xC} {a eD : Nat} {l : List xC} {H : Nat × Nat}
theorem bE_last {i : Nat} {j : Int32} {v : Int64} {x : xC} (hl : xAt k pc .lastore np) (hx : l[i]? = some x) (ht : x.1 = 21) (hj : ¬ (j < 0 ∨ x.2.1 ≤ j.toNatClampNeg)) (kk : xR pF d k o nL ini ret rr hh (np, lv, st, (hbl G a (l.set i (x.1, x.2.1, updV x.2.2 j.toNatClampNeg (.long v))), H))) :
    xR pF d k o nL ini ret rr hh (pc, lv, .long v :: .int j :: .ref (a + i) :: st, (hbl G a l, H)) := by
  have e : hbl G a l (a + i) = x := hbl_in hx
  have hi := (List.getElem?_eq_some_iff.mp hx).1
  refine xE_m (h' := (hbl G a (l.set i (x.1, x.2.1, updV x.2.2 j.toNatClampNeg (.long v))), H)) hl rfl (fun len => by simp [xpure]) ?_ kk
  obtain ⟨len, -, h2, h3⟩ := hl
  obtain rfl : len = 1 := by simp only [xlen] at h2; omega
  subst h3
  simp only [xmem, xast, e, ht, if_neg hj, if_true]
  rw [← hbl_set hi]
  try rw [ht]
def ldf (l1 : Int64) (n : Nat) : Nat → Value := fun y => if y < n then .long (l1 + (Int32.ofNat y).toInt64) else .long 0
theorem ldf_s {l1 : Int64} (n : Nat) : updV (ldf l1 n) n (.long (l1 + (Int32.ofNat n).toInt64)) = ldf l1 (n + 1) := by
  funext y
  show (if y = n then _ else if y < n then _ else _) = (if y < n + 1 then _ else _)
  by_cases h : y = n
  · rw [if_pos h, if_pos (by omega), h]
  · rw [if_neg h]
    by_cases h2 : y < n
    · rw [if_pos h2, if_pos (by omega)]
    · rw [if_neg h2, if_neg (by omega)]
/-- a new list's cell -/
def lcell (eD : Nat) : xC := (4, (xCl 3).2.2, updV (updV (ocell 3).2.2 0 (.int 0)) 1 (.ref eD))
theorem b_list (hB : yB eD pF) (i : Nat) (hx : l[i]? = some (ocell 3)) : xCo pF (d + 5) 9 [.ref (a + i)] (hbl G a l, H) none (hbl G a (l.set i (lcell eD)), H) := by
  have e : hbl G a l (a + i) = ocell 3 := hbl_in hx
  have hi := (List.getElem?_eq_some_iff.mp hx).1
  have h9 := hB.2.2.2.2 (a + i) (hbl G a l, H) (by show (hbl G a l (a + i)).1 = 4; rw [e]; rfl)
  have := yCo_b (d := d + 4) h9 (by omega)
  have e2 : yhI (hbl G a l, H) (a + i) eD = (hbl G a (l.set i (lcell eD)), H) := by
    unfold yhI
    rw [show ((hbl G a l, H) : xH).1 (a + i) = ocell 3 from e]
    show (xset (hbl G a l) (a + i) _, H) = _
    rw [hbl_set hi]
    rfl
  rw [e2] at this
  exact this
end CW1
theorem yl195_0 : xAt kT195 0 (.aload_n 0) 1 := ⟨1, rfl, Or.inr rfl, rfl⟩
theorem yl195_1 : xAt kT195 1 (.invokespecial 3) 4 := ⟨3, rfl, Or.inr rfl, rfl⟩
theorem yl195_4 : xAt kT195 4 (.aload_n 0) 5 := ⟨1, rfl, Or.inr rfl, rfl⟩
theorem yl195_5 : xAt kT195 5 (.bipush 23) 7 := ⟨2, rfl, Or.inr rfl, rfl⟩
theorem yl195_7 : xAt kT195 7 (.newarray .int) 9 := ⟨2, rfl, Or.inr rfl, rfl⟩
theorem yl195_9 : xAt kT195 9 (.putfield 9) 12 := ⟨3, rfl, Or.inr rfl, rfl⟩
theorem yl195_12 : xAt kT195 12 (.aload_n 0) 13 := ⟨1, rfl, Or.inr rfl, rfl⟩
theorem yl195_13 : xAt kT195 13 (.bipush 23) 15 := ⟨2, rfl, Or.inr rfl, rfl⟩
theorem yl195_15 : xAt kT195 15 (.newarray .int) 17 := ⟨2, rfl, Or.inr rfl, rfl⟩
theorem yl195_17 : xAt kT195 17 (.putfield 15) 20 := ⟨3, rfl, Or.inr rfl, rfl⟩
theorem yl195_20 : xAt kT195 20 (.aload_n 0) 21 := ⟨1, rfl, Or.inr rfl, rfl⟩
theorem yl195_21 : xAt kT195 21 (.sipush 256) 24 := ⟨3, rfl, Or.inr rfl, rfl⟩
theorem yl195_24 : xAt kT195 24 (.newarray .int) 26 := ⟨2, rfl, Or.inr rfl, rfl⟩
theorem yl195_26 : xAt kT195 26 (.putfield 18) 29 := ⟨3, rfl, Or.inr rfl, rfl⟩
theorem yl195_29 : xAt kT195 29 (.aload_n 0) 30 := ⟨1, rfl, Or.inr rfl, rfl⟩
theorem yl195_30 : xAt kT195 30 (.bipush 7) 32 := ⟨2, rfl, Or.inr rfl, rfl⟩
theorem yl195_32 : xAt kT195 32 (.newarray .int) 34 := ⟨2, rfl, Or.inr rfl, rfl⟩
theorem yl195_34 : xAt kT195 34 (.putfield 21) 37 := ⟨3, rfl, Or.inr rfl, rfl⟩
theorem yl195_37 : xAt kT195 37 (.aload_n 0) 38 := ⟨1, rfl, Or.inr rfl, rfl⟩
theorem yl195_38 : xAt kT195 38 (.bipush 7) 40 := ⟨2, rfl, Or.inr rfl, rfl⟩
theorem yl195_40 : xAt kT195 40 (.newarray .long) 42 := ⟨2, rfl, Or.inr rfl, rfl⟩
theorem yl195_42 : xAt kT195 42 (.putfield 24) 45 := ⟨3, rfl, Or.inr rfl, rfl⟩
theorem yl195_45 : xAt kT195 45 (.aload_n 0) 46 := ⟨1, rfl, Or.inr rfl, rfl⟩
theorem yl195_46 : xAt kT195 46 (.new 28) 49 := ⟨3, rfl, Or.inr rfl, rfl⟩
theorem yl195_49 : xAt kT195 49 (.dup) 50 := ⟨1, rfl, Or.inr rfl, rfl⟩
theorem yl195_50 : xAt kT195 50 (.invokespecial 30) 53 := ⟨3, rfl, Or.inr rfl, rfl⟩
theorem yl195_53 : xAt kT195 53 (.putfield 31) 56 := ⟨3, rfl, Or.inr rfl, rfl⟩
theorem yl195_56 : xAt kT195 56 (.aload_n 0) 57 := ⟨1, rfl, Or.inr rfl, rfl⟩
theorem yl195_57 : xAt kT195 57 (.new 28) 60 := ⟨3, rfl, Or.inr rfl, rfl⟩
theorem yl195_60 : xAt kT195 60 (.dup) 61 := ⟨1, rfl, Or.inr rfl, rfl⟩
theorem yl195_61 : xAt kT195 61 (.invokespecial 30) 64 := ⟨3, rfl, Or.inr rfl, rfl⟩
theorem yl195_64 : xAt kT195 64 (.putfield 35) 67 := ⟨3, rfl, Or.inr rfl, rfl⟩
theorem yl195_67 : xAt kT195 67 (.aload_n 0) 68 := ⟨1, rfl, Or.inr rfl, rfl⟩
theorem yl195_68 : xAt kT195 68 (.getfield 9) 71 := ⟨3, rfl, Or.inr rfl, rfl⟩
theorem yl195_71 : xAt kT195 71 (.iconst (-1)) 72 := ⟨1, rfl, Or.inr rfl, rfl⟩
theorem yl195_72 : xAt kT195 72 (.invokestatic 38) 75 := ⟨3, rfl, Or.inr rfl, rfl⟩
theorem yl195_75 : xAt kT195 75 (.aload_n 0) 76 := ⟨1, rfl, Or.inr rfl, rfl⟩
theorem yl195_76 : xAt kT195 76 (.getfield 18) 79 := ⟨3, rfl, Or.inr rfl, rfl⟩
theorem yl195_79 : xAt kT195 79 (.iconst 3) 80 := ⟨1, rfl, Or.inr rfl, rfl⟩
theorem yl195_80 : xAt kT195 80 (.invokestatic 38) 83 := ⟨3, rfl, Or.inr rfl, rfl⟩
theorem yl195_83 : xAt kT195 83 (.aload_n 0) 84 := ⟨1, rfl, Or.inr rfl, rfl⟩
theorem yl195_84 : xAt kT195 84 (.getfield 21) 87 := ⟨3, rfl, Or.inr rfl, rfl⟩
theorem yl195_87 : xAt kT195 87 (.iconst 2) 88 := ⟨1, rfl, Or.inr rfl, rfl⟩
theorem yl195_88 : xAt kT195 88 (.invokestatic 38) 91 := ⟨3, rfl, Or.inr rfl, rfl⟩
theorem yl195_91 : xAt kT195 91 (.iconst 0) 92 := ⟨1, rfl, Or.inr rfl, rfl⟩
theorem yl195_92 : xAt kT195 92 (.istore_n 3) 93 := ⟨1, rfl, Or.inr rfl, rfl⟩
theorem yl195_93 : xAt kT195 93 (.iload_n 3) 94 := ⟨1, rfl, Or.inr rfl, rfl⟩
theorem yl195_94 : xAt kT195 94 (.bipush 7) 96 := ⟨2, rfl, Or.inr rfl, rfl⟩
theorem yl195_96 : xAt kT195 96 (.if_icmp .ge 19) 99 := ⟨3, rfl, Or.inr rfl, rfl⟩
theorem yl195_99 : xAt kT195 99 (.aload_n 0) 100 := ⟨1, rfl, Or.inr rfl, rfl⟩
theorem yl195_100 : xAt kT195 100 (.getfield 24) 103 := ⟨3, rfl, Or.inr rfl, rfl⟩
theorem yl195_103 : xAt kT195 103 (.iload_n 3) 104 := ⟨1, rfl, Or.inr rfl, rfl⟩
theorem yl195_104 : xAt kT195 104 (.lload_n 1) 105 := ⟨1, rfl, Or.inr rfl, rfl⟩
theorem yl195_105 : xAt kT195 105 (.iload_n 3) 106 := ⟨1, rfl, Or.inr rfl, rfl⟩
theorem yl195_106 : xAt kT195 106 (.i2l) 107 := ⟨1, rfl, Or.inr rfl, rfl⟩
theorem yl195_107 : xAt kT195 107 (.ladd) 108 := ⟨1, rfl, Or.inr rfl, rfl⟩
theorem yl195_108 : xAt kT195 108 (.lastore) 109 := ⟨1, rfl, Or.inr rfl, rfl⟩
theorem yl195_109 : xAt kT195 109 (.iinc 3 1) 112 := ⟨3, rfl, Or.inr rfl, rfl⟩
theorem yl195_112 : xAt kT195 112 (.goto (-19)) 115 := ⟨3, rfl, Or.inr rfl, rfl⟩
theorem yl195_115 : xAt kT195 115 (.return_) 116 := ⟨1, rfl, Or.inr rfl, rfl⟩
section CW2
variable {pF : Nat → List Value → xH → Option (Option Value × xH)} {d b u eD : Nat} {G : Nat → xC}
/-- the cells of a new World at b, k places of its seeds written -/
def c195_S (b eD : Nat) (l1 : Int64) (k : Nat) : List xC := [(15, (xCl 14).2.2, updV (updV (updV (updV (updV (updV (updV ((ocell 14).2.2) 10 (.ref (b + 1))) 11 (.ref (b + 2))) 12 (.ref (b + 3))) 13 (.ref (b + 4))) 14 (.ref (b + 5))) 15 (.ref (b + 6))) 16 (.ref (b + 7))), (20, 23, bfl (fun _ => .int 0) (-1) 23), (20, 23, fun _ => (.int 0)), (20, 256, bfl (fun _ => .int 0) (3) 256), (20, 7, bfl (fun _ => .int 0) (2) 7), (21, 7, ldf l1 k), lcell eD, lcell eD]
theorem c195_loop {l1 : Int64} {H : Nat × Nat} : ∀ m k lv, k + m = 7 → xg lv 0 = some (.ref b) → xg lv 1 = some (.long l1) → xg lv 3 = some (.int (Int32.ofNat k)) → xR pF d kT195 14 4 true none none (hbl G b (c195_S b eD l1 7), H) (93, lv, [], (hbl G b (c195_S b eD l1 k), H)) := by
  intro m
  induction m with
  | zero =>
    intro k lv hk g0 g1 g2
    obtain rfl : k = 7 := by omega
    refine eE_iload_n yl195_93 g2 ?_
    refine eE_bipush (v := 7) yl195_94 (by decide +kernel) ?_
    refine eE_icmp (t := 115) yl195_96 (by decide) (fun _ => ?_) (fun q => absurd (by decide +kernel) q)
    exact eE_end yl195_115 rfl rfl rfl
  | succ m ih =>
    intro k lv hk g0 g1 g2
    refine eE_iload_n yl195_93 g2 ?_
    refine eE_bipush (v := 7) yl195_94 (by decide +kernel) ?_
    refine eE_icmp (t := 115) yl195_96 (by decide) (fun q => ?_) (fun _ => ?_)
    · have := (y_ge (x := k) (y := 7) (by omega) (by omega)).mp q
      omega
    refine eE_aload_n yl195_99 g0 ?_
    rw [show (.ref b : Value) = .ref (b + 0) from rfl]
    refine bE_get (i := 0) (ci := 14) (f := 14) (v := .ref (b + 5)) yl195_100 (by decide +kernel) rfl rfl rfl ?_
    refine eE_iload_n yl195_103 g2 ?_
    refine eE_lload_n yl195_104 g1 ?_
    refine eE_iload_n yl195_105 g2 ?_
    refine eE_i2l yl195_106 ?_
    refine eE_ladd yl195_107 ?_
    obtain ⟨n1, n2⟩ := y_ofn (n := k) (by omega)
    refine bE_last (i := 5) (x := (21, 7, ldf l1 k)) yl195_108 rfl rfl (by rw [n1]; exact fun z => z.elim n2 (fun z => by have : (7 : Nat) ≤ k := z; omega)) ?_
    rw [n1, ldf_s]
    refine eE_iinc (v := Int32.ofNat (k + 1)) yl195_109 g2 (by rw [← y_add]; rfl) (by decide) rfl ?_
    refine eE_goto (t := 93) yl195_112 (by decide) ?_
    exact ih (k + 1) _ (by omega) (xs1_keep.2 0 _ (by decide) (fun _ => rfl) g0) (xs1_keep.2 1 _ (by decide) (fun q => absurd q (by decide)) g1) xs1_keep.1
set_option maxRecDepth 100000 in
theorem c195_p4 (hB : yB eD pF) {lv : xL} {hh : xH} (g0 : xg lv 0 = some (.ref b)) (kk : xR pF (d + 5) kT195 14 4 true none none hh (20, lv, [], (hbl G b [(15, (xCl 14).2.2, updV (updV ((ocell 14).2.2) 10 (.ref (b + 1))) 11 (.ref (b + 2))), (20, 23, fun _ => (.int 0)), (20, 23, fun _ => (.int 0))], b + 3, u + 23 + 23))) : xR pF (d + 5) kT195 14 4 true none none hh (4, lv, [], (hbl G b [ocell 14], b + 1, u)) := by
  have hp : ∀ as h, pF 393 as h = none := fun as h => hB.1 393 as h (by decide) (by decide) (by decide)
  refine eE_aload_n yl195_4 (x := b) g0 ?_
  rw [show (.ref b : Value) = .ref (b + 0) from rfl]
  refine eE_bipush (v := 23) yl195_5 (by decide +kernel) ?_
  refine bE_newa (N := 1) (j := 0) (m := 23) (dv := (.int 0)) yl195_7 rfl ⟨by decide +kernel, by decide +kernel, by decide⟩ rfl rfl ?_
  refine bE_put (i := 0) (ci := 14) (f := 10) (ty := (.array .int)) yl195_9 (by decide +kernel) rfl rfl (by decide +kernel) (Or.inr ⟨rfl, by decide +kernel⟩) (by decide +kernel) rfl ?_
  refine eE_aload_n yl195_12 (x := b) g0 ?_
  rw [show (.ref b : Value) = .ref (b + 0) from rfl]
  refine eE_bipush (v := 23) yl195_13 (by decide +kernel) ?_
  refine bE_newa (N := 2) (j := 0) (m := 23) (dv := (.int 0)) yl195_15 rfl ⟨by decide +kernel, by decide +kernel, by decide⟩ rfl rfl ?_
  refine bE_put (i := 0) (ci := 14) (f := 11) (ty := (.array .int)) yl195_17 (by decide +kernel) rfl rfl (by decide +kernel) (Or.inr ⟨rfl, by decide +kernel⟩) (by decide +kernel) rfl ?_
  exact kk
set_option maxRecDepth 100000 in
theorem c195_p20 (hB : yB eD pF) {lv : xL} {hh : xH} (g0 : xg lv 0 = some (.ref b)) (kk : xR pF (d + 5) kT195 14 4 true none none hh (45, lv, [], (hbl G b [(15, (xCl 14).2.2, updV (updV (updV (updV (updV ((ocell 14).2.2) 10 (.ref (b + 1))) 11 (.ref (b + 2))) 12 (.ref (b + 3))) 13 (.ref (b + 4))) 14 (.ref (b + 5))), (20, 23, fun _ => (.int 0)), (20, 23, fun _ => (.int 0)), (20, 256, fun _ => (.int 0)), (20, 7, fun _ => (.int 0)), (21, 7, fun _ => (.long 0))], b + 6, u + 23 + 23 + 256 + 7 + 7))) : xR pF (d + 5) kT195 14 4 true none none hh (20, lv, [], (hbl G b [(15, (xCl 14).2.2, updV (updV ((ocell 14).2.2) 10 (.ref (b + 1))) 11 (.ref (b + 2))), (20, 23, fun _ => (.int 0)), (20, 23, fun _ => (.int 0))], b + 3, u + 23 + 23)) := by
  have hp : ∀ as h, pF 393 as h = none := fun as h => hB.1 393 as h (by decide) (by decide) (by decide)
  refine eE_aload_n yl195_20 (x := b) g0 ?_
  rw [show (.ref b : Value) = .ref (b + 0) from rfl]
  refine eE_sipush (v := 256) yl195_21 (by decide +kernel) ?_
  refine bE_newa (N := 3) (j := 0) (m := 256) (dv := (.int 0)) yl195_24 rfl ⟨by decide +kernel, by decide +kernel, by decide⟩ rfl rfl ?_
  refine bE_put (i := 0) (ci := 14) (f := 12) (ty := (.array .int)) yl195_26 (by decide +kernel) rfl rfl (by decide +kernel) (Or.inr ⟨rfl, by decide +kernel⟩) (by decide +kernel) rfl ?_
  refine eE_aload_n yl195_29 (x := b) g0 ?_
  rw [show (.ref b : Value) = .ref (b + 0) from rfl]
  refine eE_bipush (v := 7) yl195_30 (by decide +kernel) ?_
  refine bE_newa (N := 4) (j := 0) (m := 7) (dv := (.int 0)) yl195_32 rfl ⟨by decide +kernel, by decide +kernel, by decide⟩ rfl rfl ?_
  refine bE_put (i := 0) (ci := 14) (f := 13) (ty := (.array .int)) yl195_34 (by decide +kernel) rfl rfl (by decide +kernel) (Or.inr ⟨rfl, by decide +kernel⟩) (by decide +kernel) rfl ?_
  refine eE_aload_n yl195_37 (x := b) g0 ?_
  rw [show (.ref b : Value) = .ref (b + 0) from rfl]
  refine eE_bipush (v := 7) yl195_38 (by decide +kernel) ?_
  refine bE_newa (N := 5) (j := 1) (m := 7) (dv := (.long 0)) yl195_40 rfl ⟨by decide +kernel, by decide +kernel, by decide⟩ rfl rfl ?_
  refine bE_put (i := 0) (ci := 14) (f := 14) (ty := (.array .long)) yl195_42 (by decide +kernel) rfl rfl (by decide +kernel) (Or.inr ⟨rfl, by decide +kernel⟩) (by decide +kernel) rfl ?_
  exact kk
set_option maxRecDepth 100000 in
theorem c195_p45 (hB : yB eD pF) {lv : xL} {hh : xH} (g0 : xg lv 0 = some (.ref b)) (kk : xR pF (d + 5) kT195 14 4 true none none hh (56, lv, [], (hbl G b [(15, (xCl 14).2.2, updV (updV (updV (updV (updV (updV ((ocell 14).2.2) 10 (.ref (b + 1))) 11 (.ref (b + 2))) 12 (.ref (b + 3))) 13 (.ref (b + 4))) 14 (.ref (b + 5))) 15 (.ref (b + 6))), (20, 23, fun _ => (.int 0)), (20, 23, fun _ => (.int 0)), (20, 256, fun _ => (.int 0)), (20, 7, fun _ => (.int 0)), (21, 7, fun _ => (.long 0)), lcell eD], b + 7, u + 23 + 23 + 256 + 7 + 7 + (xCl 3).2.2))) : xR pF (d + 5) kT195 14 4 true none none hh (45, lv, [], (hbl G b [(15, (xCl 14).2.2, updV (updV (updV (updV (updV ((ocell 14).2.2) 10 (.ref (b + 1))) 11 (.ref (b + 2))) 12 (.ref (b + 3))) 13 (.ref (b + 4))) 14 (.ref (b + 5))), (20, 23, fun _ => (.int 0)), (20, 23, fun _ => (.int 0)), (20, 256, fun _ => (.int 0)), (20, 7, fun _ => (.int 0)), (21, 7, fun _ => (.long 0))], b + 6, u + 23 + 23 + 256 + 7 + 7)) := by
  have hp : ∀ as h, pF 393 as h = none := fun as h => hB.1 393 as h (by decide) (by decide) (by decide)
  refine eE_aload_n yl195_45 (x := b) g0 ?_
  rw [show (.ref b : Value) = .ref (b + 0) from rfl]
  refine bE_new (N := 6) (ci := 3) yl195_46 (by decide +kernel) (by decide +kernel) rfl ?_
  refine eE_dup yl195_49 rfl ?_
  refine eE_init (as := []) (n := 0) (y := 9) yl195_50 (Or.inl (by decide +kernel)) (by decide +kernel) rfl rfl (Nat.le_of_ble_eq_true rfl) ywi_9 (b_list hB 6 rfl) ?_
  refine bE_put (i := 0) (ci := 14) (f := 15) (ty := (.object "java/util/ArrayList")) yl195_53 (by decide +kernel) rfl rfl (by decide +kernel) (Or.inr ⟨rfl, by decide +kernel⟩) (by decide +kernel) rfl ?_
  exact kk
set_option maxRecDepth 100000 in
theorem c195_p56 (hB : yB eD pF) {lv : xL} {hh : xH} (g0 : xg lv 0 = some (.ref b)) (kk : xR pF (d + 5) kT195 14 4 true none none hh (67, lv, [], (hbl G b [(15, (xCl 14).2.2, updV (updV (updV (updV (updV (updV (updV ((ocell 14).2.2) 10 (.ref (b + 1))) 11 (.ref (b + 2))) 12 (.ref (b + 3))) 13 (.ref (b + 4))) 14 (.ref (b + 5))) 15 (.ref (b + 6))) 16 (.ref (b + 7))), (20, 23, fun _ => (.int 0)), (20, 23, fun _ => (.int 0)), (20, 256, fun _ => (.int 0)), (20, 7, fun _ => (.int 0)), (21, 7, fun _ => (.long 0)), lcell eD, lcell eD], b + 8, u + 23 + 23 + 256 + 7 + 7 + (xCl 3).2.2 + (xCl 3).2.2))) : xR pF (d + 5) kT195 14 4 true none none hh (56, lv, [], (hbl G b [(15, (xCl 14).2.2, updV (updV (updV (updV (updV (updV ((ocell 14).2.2) 10 (.ref (b + 1))) 11 (.ref (b + 2))) 12 (.ref (b + 3))) 13 (.ref (b + 4))) 14 (.ref (b + 5))) 15 (.ref (b + 6))), (20, 23, fun _ => (.int 0)), (20, 23, fun _ => (.int 0)), (20, 256, fun _ => (.int 0)), (20, 7, fun _ => (.int 0)), (21, 7, fun _ => (.long 0)), lcell eD], b + 7, u + 23 + 23 + 256 + 7 + 7 + (xCl 3).2.2)) := by
  have hp : ∀ as h, pF 393 as h = none := fun as h => hB.1 393 as h (by decide) (by decide) (by decide)
  refine eE_aload_n yl195_56 (x := b) g0 ?_
  rw [show (.ref b : Value) = .ref (b + 0) from rfl]
  refine bE_new (N := 7) (ci := 3) yl195_57 (by decide +kernel) (by decide +kernel) rfl ?_
  refine eE_dup yl195_60 rfl ?_
  refine eE_init (as := []) (n := 0) (y := 9) yl195_61 (Or.inl (by decide +kernel)) (by decide +kernel) rfl rfl (Nat.le_of_ble_eq_true rfl) ywi_9 (b_list hB 7 rfl) ?_
  refine bE_put (i := 0) (ci := 14) (f := 16) (ty := (.object "java/util/ArrayList")) yl195_64 (by decide +kernel) rfl rfl (by decide +kernel) (Or.inr ⟨rfl, by decide +kernel⟩) (by decide +kernel) rfl ?_
  exact kk
set_option maxRecDepth 100000 in
theorem c195_p67 (hB : yB eD pF) {lv : xL} {hh : xH} (g0 : xg lv 0 = some (.ref b)) (kk : xR pF (d + 5) kT195 14 4 true none none hh (75, lv, [], (hbl G b [(15, (xCl 14).2.2, updV (updV (updV (updV (updV (updV (updV ((ocell 14).2.2) 10 (.ref (b + 1))) 11 (.ref (b + 2))) 12 (.ref (b + 3))) 13 (.ref (b + 4))) 14 (.ref (b + 5))) 15 (.ref (b + 6))) 16 (.ref (b + 7))), (20, 23, bfl (fun _ => .int 0) (-1) 23), (20, 23, fun _ => (.int 0)), (20, 256, fun _ => (.int 0)), (20, 7, fun _ => (.int 0)), (21, 7, fun _ => (.long 0)), lcell eD, lcell eD], b + 8, u + 23 + 23 + 256 + 7 + 7 + (xCl 3).2.2 + (xCl 3).2.2))) : xR pF (d + 5) kT195 14 4 true none none hh (67, lv, [], (hbl G b [(15, (xCl 14).2.2, updV (updV (updV (updV (updV (updV (updV ((ocell 14).2.2) 10 (.ref (b + 1))) 11 (.ref (b + 2))) 12 (.ref (b + 3))) 13 (.ref (b + 4))) 14 (.ref (b + 5))) 15 (.ref (b + 6))) 16 (.ref (b + 7))), (20, 23, fun _ => (.int 0)), (20, 23, fun _ => (.int 0)), (20, 256, fun _ => (.int 0)), (20, 7, fun _ => (.int 0)), (21, 7, fun _ => (.long 0)), lcell eD, lcell eD], b + 8, u + 23 + 23 + 256 + 7 + 7 + (xCl 3).2.2 + (xCl 3).2.2)) := by
  have hp : ∀ as h, pF 393 as h = none := fun as h => hB.1 393 as h (by decide) (by decide) (by decide)
  refine eE_aload_n yl195_67 (x := b) g0 ?_
  rw [show (.ref b : Value) = .ref (b + 0) from rfl]
  refine bE_get (i := 0) (ci := 14) (f := 10) (v := .ref (b + 1)) yl195_68 (by decide +kernel) rfl rfl rfl ?_
  refine eE_iconst (v := -1) yl195_71 (by decide +kernel) ?_
  refine eE_stat (as := [.ref (b + 1), .int (-1)]) (r := none) yl195_72 (by decide +kernel) yna_393 rfl rfl (Nat.le_of_ble_eq_true rfl) ymm_393 yws_393 (b_fill (d := d + 4) hp (i := 1) (n := 23) (A := fun _ => .int 0) rfl (by decide)) ?_
  exact kk
set_option maxRecDepth 100000 in
theorem c195_p75 (hB : yB eD pF) {lv : xL} {hh : xH} (g0 : xg lv 0 = some (.ref b)) (kk : xR pF (d + 5) kT195 14 4 true none none hh (83, lv, [], (hbl G b [(15, (xCl 14).2.2, updV (updV (updV (updV (updV (updV (updV ((ocell 14).2.2) 10 (.ref (b + 1))) 11 (.ref (b + 2))) 12 (.ref (b + 3))) 13 (.ref (b + 4))) 14 (.ref (b + 5))) 15 (.ref (b + 6))) 16 (.ref (b + 7))), (20, 23, bfl (fun _ => .int 0) (-1) 23), (20, 23, fun _ => (.int 0)), (20, 256, bfl (fun _ => .int 0) (3) 256), (20, 7, fun _ => (.int 0)), (21, 7, fun _ => (.long 0)), lcell eD, lcell eD], b + 8, u + 23 + 23 + 256 + 7 + 7 + (xCl 3).2.2 + (xCl 3).2.2))) : xR pF (d + 5) kT195 14 4 true none none hh (75, lv, [], (hbl G b [(15, (xCl 14).2.2, updV (updV (updV (updV (updV (updV (updV ((ocell 14).2.2) 10 (.ref (b + 1))) 11 (.ref (b + 2))) 12 (.ref (b + 3))) 13 (.ref (b + 4))) 14 (.ref (b + 5))) 15 (.ref (b + 6))) 16 (.ref (b + 7))), (20, 23, bfl (fun _ => .int 0) (-1) 23), (20, 23, fun _ => (.int 0)), (20, 256, fun _ => (.int 0)), (20, 7, fun _ => (.int 0)), (21, 7, fun _ => (.long 0)), lcell eD, lcell eD], b + 8, u + 23 + 23 + 256 + 7 + 7 + (xCl 3).2.2 + (xCl 3).2.2)) := by
  have hp : ∀ as h, pF 393 as h = none := fun as h => hB.1 393 as h (by decide) (by decide) (by decide)
  refine eE_aload_n yl195_75 (x := b) g0 ?_
  rw [show (.ref b : Value) = .ref (b + 0) from rfl]
  refine bE_get (i := 0) (ci := 14) (f := 12) (v := .ref (b + 3)) yl195_76 (by decide +kernel) rfl rfl rfl ?_
  refine eE_iconst (v := 3) yl195_79 (by decide +kernel) ?_
  refine eE_stat (as := [.ref (b + 3), .int (3)]) (r := none) yl195_80 (by decide +kernel) yna_393 rfl rfl (Nat.le_of_ble_eq_true rfl) ymm_393 yws_393 (b_fill (d := d + 4) hp (i := 3) (n := 256) (A := fun _ => .int 0) rfl (by decide)) ?_
  exact kk
set_option maxRecDepth 100000 in
theorem c195_p83 (hB : yB eD pF) {lv : xL} {hh : xH} (g0 : xg lv 0 = some (.ref b)) (kk : xR pF (d + 5) kT195 14 4 true none none hh (91, lv, [], (hbl G b [(15, (xCl 14).2.2, updV (updV (updV (updV (updV (updV (updV ((ocell 14).2.2) 10 (.ref (b + 1))) 11 (.ref (b + 2))) 12 (.ref (b + 3))) 13 (.ref (b + 4))) 14 (.ref (b + 5))) 15 (.ref (b + 6))) 16 (.ref (b + 7))), (20, 23, bfl (fun _ => .int 0) (-1) 23), (20, 23, fun _ => (.int 0)), (20, 256, bfl (fun _ => .int 0) (3) 256), (20, 7, bfl (fun _ => .int 0) (2) 7), (21, 7, fun _ => (.long 0)), lcell eD, lcell eD], b + 8, u + 23 + 23 + 256 + 7 + 7 + (xCl 3).2.2 + (xCl 3).2.2))) : xR pF (d + 5) kT195 14 4 true none none hh (83, lv, [], (hbl G b [(15, (xCl 14).2.2, updV (updV (updV (updV (updV (updV (updV ((ocell 14).2.2) 10 (.ref (b + 1))) 11 (.ref (b + 2))) 12 (.ref (b + 3))) 13 (.ref (b + 4))) 14 (.ref (b + 5))) 15 (.ref (b + 6))) 16 (.ref (b + 7))), (20, 23, bfl (fun _ => .int 0) (-1) 23), (20, 23, fun _ => (.int 0)), (20, 256, bfl (fun _ => .int 0) (3) 256), (20, 7, fun _ => (.int 0)), (21, 7, fun _ => (.long 0)), lcell eD, lcell eD], b + 8, u + 23 + 23 + 256 + 7 + 7 + (xCl 3).2.2 + (xCl 3).2.2)) := by
  have hp : ∀ as h, pF 393 as h = none := fun as h => hB.1 393 as h (by decide) (by decide) (by decide)
  refine eE_aload_n yl195_83 (x := b) g0 ?_
  rw [show (.ref b : Value) = .ref (b + 0) from rfl]
  refine bE_get (i := 0) (ci := 14) (f := 13) (v := .ref (b + 4)) yl195_84 (by decide +kernel) rfl rfl rfl ?_
  refine eE_iconst (v := 2) yl195_87 (by decide +kernel) ?_
  refine eE_stat (as := [.ref (b + 4), .int (2)]) (r := none) yl195_88 (by decide +kernel) yna_393 rfl rfl (Nat.le_of_ble_eq_true rfl) ymm_393 yws_393 (b_fill (d := d + 4) hp (i := 4) (n := 7) (A := fun _ => .int 0) rfl (by decide)) ?_
  exact kk
theorem c195_ok (hB : yB eD pF) {l1 : Int64} : xCo pF (d + 6) 195 [.ref b, .long l1] (hbl G b [ocell 14], b + 1, u) none (hbl G b (c195_S b eD l1 7), b + 8, u + 23 + 23 + 256 + 7 + 7 + (xCl 3).2.2 + (xCl 3).2.2) := by
  have hp : ∀ as h, pF 393 as h = none := fun as h => hB.1 393 as h (by decide) (by decide) (by decide)
  refine xCo_Ri (k := kT195) (o := 14) (ml := 4) (n := 1) (ret := none) rfl rfl (by decide +kernel) (bytes := cX10_init) rfl (Nat.le_of_ble_eq_true rfl) (hB.1 195 _ _ (by decide) (by decide) (by decide)) ?_
  refine eE_aload_n yl195_0 (x := b) rfl ?_
  refine eE_obj yl195_1 (by decide +kernel) (by decide +kernel) (by decide +kernel) (Nat.le_of_ble_eq_true rfl) ?_
  refine c195_p4 hB rfl ?_
  refine c195_p20 hB rfl ?_
  refine c195_p45 hB rfl ?_
  refine c195_p56 hB rfl ?_
  refine c195_p67 hB rfl ?_
  refine c195_p75 hB rfl ?_
  refine c195_p83 hB rfl ?_
  refine eE_iconst (v := 0) yl195_91 (by decide) ?_
  refine eE_stI (j := 3) yl195_92 (Or.inr ⟨3, rfl, rfl⟩) (by decide) (fun lv1 q2 k2 => ?_)
  exact c195_loop 7 0 lv1 rfl (k2 0 _ (by decide) (fun _ => rfl) rfl) (k2 1 _ (by decide) (fun q => absurd q (by decide)) rfl) q2
end CW2
