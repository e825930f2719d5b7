/-! the class's constructors that call nobody (printed by wip/whole/gen_cinit.py) -/
section CL
variable {pF : Nat → List Value → xH → Option (Option Value × xH)} {d b u : Nat} {G : Nat → xC}
theorem yl17_0 : xAt kT17 0 (.aload_n 0) 1 := ⟨1, rfl, Or.inr rfl, rfl⟩
theorem yl17_1 : xAt kT17 1 (.invokespecial 3) 4 := ⟨3, rfl, Or.inr rfl, rfl⟩
theorem yl17_4 : xAt kT17 4 (.aload_n 0) 5 := ⟨1, rfl, Or.inr rfl, rfl⟩
theorem yl17_5 : xAt kT17 5 (.sipush 640) 8 := ⟨3, rfl, Or.inr rfl, rfl⟩
theorem yl17_8 : xAt kT17 8 (.newarray .int) 10 := ⟨2, rfl, Or.inr rfl, rfl⟩
theorem yl17_10 : xAt kT17 10 (.putfield 11) 13 := ⟨3, rfl, Or.inr rfl, rfl⟩
theorem yl17_13 : xAt kT17 13 (.aload_n 0) 14 := ⟨1, rfl, Or.inr rfl, rfl⟩
theorem yl17_14 : xAt kT17 14 (.sipush 2048) 17 := ⟨3, rfl, Or.inr rfl, rfl⟩
theorem yl17_17 : xAt kT17 17 (.newarray .byte) 19 := ⟨2, rfl, Or.inr rfl, rfl⟩
theorem yl17_19 : xAt kT17 19 (.putfield 15) 22 := ⟨3, rfl, Or.inr rfl, rfl⟩
theorem yl17_22 : xAt kT17 22 (.return_) 23 := ⟨1, rfl, Or.inr rfl, rfl⟩
/-- the cells of a new Askings at b -/
def c17_F (b : Nat)  : List xC := [(5, (xCl 4).2.2, updV (updV ((ocell 4).2.2) 2 (.ref (b + 1))) 3 (.ref (b + 2))), (20, 640, fun _ => (.int 0)), (22, 2048, fun _ => (.int 0))]
set_option maxRecDepth 100000 in
theorem c17_ok (hp0 : xNPc pF)  : xCo pF (d + 1) 17 [.ref b] (hbl G b [ocell 4], b + 1, u) none (hbl G b (c17_F b ), b + 3, u + 640 + 2048) := by
  refine xCo_Ri (k := kT17) (o := 4) (ml := 1) (n := 0) (ret := none) rfl rfl (by decide +kernel) (bytes := cX0_init) rfl (Nat.le_of_ble_eq_true rfl) (hp0 17 (by decide) _ _) ?_
  refine eE_aload_n yl17_0 (x := b) rfl ?_
  refine eE_obj yl17_1 (by decide +kernel) (by decide +kernel) (by decide +kernel) (Nat.le_of_ble_eq_true rfl) ?_
  refine eE_aload_n yl17_4 (x := b) rfl ?_
  rw [show (.ref b : Value) = .ref (b + 0) from rfl]
  refine eE_sipush (v := 640) yl17_5 (by decide +kernel) ?_
  refine bE_newa (N := 1) (j := 0) (m := 640) (dv := (.int 0)) yl17_8 rfl ⟨by decide +kernel, by decide +kernel, by decide⟩ rfl rfl ?_
  refine bE_put (i := 0) (ci := 4) (f := 2) (ty := (.array .int)) yl17_10 (by decide +kernel) rfl rfl (by decide +kernel) (Or.inr ⟨rfl, by decide +kernel⟩) (by decide +kernel) rfl ?_
  refine eE_aload_n yl17_13 (x := b) rfl ?_
  rw [show (.ref b : Value) = .ref (b + 0) from rfl]
  refine eE_sipush (v := 2048) yl17_14 (by decide +kernel) ?_
  refine bE_newa (N := 2) (j := 2) (m := 2048) (dv := (.int 0)) yl17_17 rfl ⟨by decide +kernel, by decide +kernel, by decide⟩ rfl rfl ?_
  refine bE_put (i := 0) (ci := 4) (f := 3) (ty := (.array .byte)) yl17_19 (by decide +kernel) rfl rfl (by decide +kernel) (Or.inr ⟨rfl, by decide +kernel⟩) (by decide +kernel) rfl ?_
  exact eE_end yl17_22 rfl rfl rfl
theorem yl26_0 : xAt kT26 0 (.aload_n 0) 1 := ⟨1, rfl, Or.inr rfl, rfl⟩
theorem yl26_1 : xAt kT26 1 (.invokespecial 3) 4 := ⟨3, rfl, Or.inr rfl, rfl⟩
theorem yl26_4 : xAt kT26 4 (.aload_n 0) 5 := ⟨1, rfl, Or.inr rfl, rfl⟩
theorem yl26_5 : xAt kT26 5 (.iconst (-1)) 6 := ⟨1, rfl, Or.inr rfl, rfl⟩
theorem yl26_6 : xAt kT26 6 (.putfield 9) 9 := ⟨3, rfl, Or.inr rfl, rfl⟩
theorem yl26_9 : xAt kT26 9 (.aload_n 0) 10 := ⟨1, rfl, Or.inr rfl, rfl⟩
theorem yl26_10 : xAt kT26 10 (.iconst (-1)) 11 := ⟨1, rfl, Or.inr rfl, rfl⟩
theorem yl26_11 : xAt kT26 11 (.putfield 15) 14 := ⟨3, rfl, Or.inr rfl, rfl⟩
theorem yl26_14 : xAt kT26 14 (.aload_n 0) 15 := ⟨1, rfl, Or.inr rfl, rfl⟩
theorem yl26_15 : xAt kT26 15 (.sipush 134) 18 := ⟨3, rfl, Or.inr rfl, rfl⟩
theorem yl26_18 : xAt kT26 18 (.newarray .byte) 20 := ⟨2, rfl, Or.inr rfl, rfl⟩
theorem yl26_20 : xAt kT26 20 (.putfield 18) 23 := ⟨3, rfl, Or.inr rfl, rfl⟩
theorem yl26_23 : xAt kT26 23 (.aload_n 0) 24 := ⟨1, rfl, Or.inr rfl, rfl⟩
theorem yl26_24 : xAt kT26 24 (.iload_n 1) 25 := ⟨1, rfl, Or.inr rfl, rfl⟩
theorem yl26_25 : xAt kT26 25 (.putfield 22) 28 := ⟨3, rfl, Or.inr rfl, rfl⟩
theorem yl26_28 : xAt kT26 28 (.aload_n 0) 29 := ⟨1, rfl, Or.inr rfl, rfl⟩
theorem yl26_29 : xAt kT26 29 (.aload_n 2) 30 := ⟨1, rfl, Or.inr rfl, rfl⟩
theorem yl26_30 : xAt kT26 30 (.putfield 25) 33 := ⟨3, rfl, Or.inr rfl, rfl⟩
theorem yl26_33 : xAt kT26 33 (.aload_n 0) 34 := ⟨1, rfl, Or.inr rfl, rfl⟩
theorem yl26_34 : xAt kT26 34 (.aload_n 3) 35 := ⟨1, rfl, Or.inr rfl, rfl⟩
theorem yl26_35 : xAt kT26 35 (.putfield 29) 38 := ⟨3, rfl, Or.inr rfl, rfl⟩
theorem yl26_38 : xAt kT26 38 (.return_) 39 := ⟨1, rfl, Or.inr rfl, rfl⟩
/-- the cells of a new Client at b -/
def c26_F (b : Nat) (l1 : Int32) (l2 : Nat) (l3 : Nat) : List xC := [(6, (xCl 5).2.2, updV (updV (updV (updV (updV (updV ((ocell 5).2.2) 5 (.int (-1 : Int32))) 9 (.int (-1 : Int32))) 12 (.ref (b + 1))) 0 (.int l1)) 1 (.ref l2)) 2 (.ref l3)), (22, 134, fun _ => (.int 0))]
set_option maxRecDepth 100000 in
theorem c26_ok (hp0 : xNPc pF) (l1 : Int32) (l2 : Nat) (l3 : Nat) : xCo pF (d + 1) 26 [.ref b, .int l1, .ref l2, .ref l3] (hbl G b [ocell 5], b + 1, u) none (hbl G b (c26_F b l1 l2 l3), b + 2, u + 134) := by
  refine xCo_Ri (k := kT26) (o := 5) (ml := 4) (n := 3) (ret := none) rfl rfl (by decide +kernel) (bytes := cX1_init) rfl (Nat.le_of_ble_eq_true rfl) (hp0 26 (by decide) _ _) ?_
  refine eE_aload_n yl26_0 (x := b) rfl ?_
  refine eE_obj yl26_1 (by decide +kernel) (by decide +kernel) (by decide +kernel) (Nat.le_of_ble_eq_true rfl) ?_
  refine eE_aload_n yl26_4 (x := b) rfl ?_
  rw [show (.ref b : Value) = .ref (b + 0) from rfl]
  refine eE_iconst (v := -1) yl26_5 (by decide +kernel) ?_
  refine bE_put (i := 0) (ci := 5) (f := 5) (ty := .int) yl26_6 (by decide +kernel) rfl rfl (by decide +kernel) (Or.inr ⟨rfl, by decide +kernel⟩) (by decide +kernel) rfl ?_
  refine eE_aload_n yl26_9 (x := b) rfl ?_
  rw [show (.ref b : Value) = .ref (b + 0) from rfl]
  refine eE_iconst (v := -1) yl26_10 (by decide +kernel) ?_
  refine bE_put (i := 0) (ci := 5) (f := 9) (ty := .int) yl26_11 (by decide +kernel) rfl rfl (by decide +kernel) (Or.inr ⟨rfl, by decide +kernel⟩) (by decide +kernel) rfl ?_
  refine eE_aload_n yl26_14 (x := b) rfl ?_
  rw [show (.ref b : Value) = .ref (b + 0) from rfl]
  refine eE_sipush (v := 134) yl26_15 (by decide +kernel) ?_
  refine bE_newa (N := 1) (j := 2) (m := 134) (dv := (.int 0)) yl26_18 rfl ⟨by decide +kernel, by decide +kernel, by decide⟩ rfl rfl ?_
  refine bE_put (i := 0) (ci := 5) (f := 12) (ty := (.array .byte)) yl26_20 (by decide +kernel) rfl rfl (by decide +kernel) (Or.inr ⟨rfl, by decide +kernel⟩) (by decide +kernel) rfl ?_
  refine eE_aload_n yl26_23 (x := b) rfl ?_
  rw [show (.ref b : Value) = .ref (b + 0) from rfl]
  refine eE_iload_n yl26_24 (x := l1) rfl ?_
  refine bE_put (i := 0) (ci := 5) (f := 0) (ty := .int) yl26_25 (by decide +kernel) rfl rfl (by decide +kernel) (Or.inr ⟨rfl, by decide +kernel⟩) (by decide +kernel) rfl ?_
  refine eE_aload_n yl26_28 (x := b) rfl ?_
  rw [show (.ref b : Value) = .ref (b + 0) from rfl]
  refine eE_aload_n yl26_29 (x := l2) rfl ?_
  refine bE_put (i := 0) (ci := 5) (f := 1) (ty := (.object "AgreedStore$World")) yl26_30 (by decide +kernel) rfl rfl (by decide +kernel) (Or.inr ⟨rfl, by decide +kernel⟩) (by decide +kernel) rfl ?_
  refine eE_aload_n yl26_33 (x := b) rfl ?_
  rw [show (.ref b : Value) = .ref (b + 0) from rfl]
  refine eE_aload_n yl26_34 (x := l3) rfl ?_
  refine bE_put (i := 0) (ci := 5) (f := 2) (ty := (.object "AgreedStore$Askings")) yl26_35 (by decide +kernel) rfl rfl (by decide +kernel) (Or.inr ⟨rfl, by decide +kernel⟩) (by decide +kernel) rfl ?_
  exact eE_end yl26_38 rfl rfl rfl
theorem yl55_0 : xAt kT55 0 (.aload_n 0) 1 := ⟨1, rfl, Or.inr rfl, rfl⟩
theorem yl55_1 : xAt kT55 1 (.invokespecial 3) 4 := ⟨3, rfl, Or.inr rfl, rfl⟩
theorem yl55_4 : xAt kT55 4 (.aload_n 0) 5 := ⟨1, rfl, Or.inr rfl, rfl⟩
theorem yl55_5 : xAt kT55 5 (.bipush 7) 7 := ⟨2, rfl, Or.inr rfl, rfl⟩
theorem yl55_7 : xAt kT55 7 (.newarray .int) 9 := ⟨2, rfl, Or.inr rfl, rfl⟩
theorem yl55_9 : xAt kT55 9 (.putfield 9) 12 := ⟨3, rfl, Or.inr rfl, rfl⟩
theorem yl55_12 : xAt kT55 12 (.aload_n 0) 13 := ⟨1, rfl, Or.inr rfl, rfl⟩
theorem yl55_13 : xAt kT55 13 (.bipush 7) 15 := ⟨2, rfl, Or.inr rfl, rfl⟩
theorem yl55_15 : xAt kT55 15 (.newarray .int) 17 := ⟨2, rfl, Or.inr rfl, rfl⟩
theorem yl55_17 : xAt kT55 17 (.putfield 15) 20 := ⟨3, rfl, Or.inr rfl, rfl⟩
theorem yl55_20 : xAt kT55 20 (.aload_n 0) 21 := ⟨1, rfl, Or.inr rfl, rfl⟩
theorem yl55_21 : xAt kT55 21 (.bipush 7) 23 := ⟨2, rfl, Or.inr rfl, rfl⟩
theorem yl55_23 : xAt kT55 23 (.newarray .int) 25 := ⟨2, rfl, Or.inr rfl, rfl⟩
theorem yl55_25 : xAt kT55 25 (.putfield 18) 28 := ⟨3, rfl, Or.inr rfl, rfl⟩
theorem yl55_28 : xAt kT55 28 (.aload_n 0) 29 := ⟨1, rfl, Or.inr rfl, rfl⟩
theorem yl55_29 : xAt kT55 29 (.bipush 7) 31 := ⟨2, rfl, Or.inr rfl, rfl⟩
theorem yl55_31 : xAt kT55 31 (.newarray .int) 33 := ⟨2, rfl, Or.inr rfl, rfl⟩
theorem yl55_33 : xAt kT55 33 (.putfield 21) 36 := ⟨3, rfl, Or.inr rfl, rfl⟩
theorem yl55_36 : xAt kT55 36 (.aload_n 0) 37 := ⟨1, rfl, Or.inr rfl, rfl⟩
theorem yl55_37 : xAt kT55 37 (.bipush 7) 39 := ⟨2, rfl, Or.inr rfl, rfl⟩
theorem yl55_39 : xAt kT55 39 (.newarray .int) 41 := ⟨2, rfl, Or.inr rfl, rfl⟩
theorem yl55_41 : xAt kT55 41 (.putfield 24) 44 := ⟨3, rfl, Or.inr rfl, rfl⟩
theorem yl55_44 : xAt kT55 44 (.aload_n 0) 45 := ⟨1, rfl, Or.inr rfl, rfl⟩
theorem yl55_45 : xAt kT55 45 (.bipush 7) 47 := ⟨2, rfl, Or.inr rfl, rfl⟩
theorem yl55_47 : xAt kT55 47 (.newarray .int) 49 := ⟨2, rfl, Or.inr rfl, rfl⟩
theorem yl55_49 : xAt kT55 49 (.putfield 27) 52 := ⟨3, rfl, Or.inr rfl, rfl⟩
theorem yl55_52 : xAt kT55 52 (.aload_n 0) 53 := ⟨1, rfl, Or.inr rfl, rfl⟩
theorem yl55_53 : xAt kT55 53 (.bipush 7) 55 := ⟨2, rfl, Or.inr rfl, rfl⟩
theorem yl55_55 : xAt kT55 55 (.newarray .boolean) 57 := ⟨2, rfl, Or.inr rfl, rfl⟩
theorem yl55_57 : xAt kT55 57 (.putfield 30) 60 := ⟨3, rfl, Or.inr rfl, rfl⟩
theorem yl55_60 : xAt kT55 60 (.aload_n 0) 61 := ⟨1, rfl, Or.inr rfl, rfl⟩
theorem yl55_61 : xAt kT55 61 (.bipush 7) 63 := ⟨2, rfl, Or.inr rfl, rfl⟩
theorem yl55_63 : xAt kT55 63 (.newarray .boolean) 65 := ⟨2, rfl, Or.inr rfl, rfl⟩
theorem yl55_65 : xAt kT55 65 (.putfield 34) 68 := ⟨3, rfl, Or.inr rfl, rfl⟩
theorem yl55_68 : xAt kT55 68 (.aload_n 0) 69 := ⟨1, rfl, Or.inr rfl, rfl⟩
theorem yl55_69 : xAt kT55 69 (.iconst (-1)) 70 := ⟨1, rfl, Or.inr rfl, rfl⟩
theorem yl55_70 : xAt kT55 70 (.putfield 37) 73 := ⟨3, rfl, Or.inr rfl, rfl⟩
theorem yl55_73 : xAt kT55 73 (.return_) 74 := ⟨1, rfl, Or.inr rfl, rfl⟩
/-- the cells of a new Lead at b -/
def c55_F (b : Nat)  : List xC := [(8, (xCl 7).2.2, updV (updV (updV (updV (updV (updV (updV (updV (updV ((ocell 7).2.2) 0 (.ref (b + 1))) 1 (.ref (b + 2))) 2 (.ref (b + 3))) 3 (.ref (b + 4))) 4 (.ref (b + 5))) 5 (.ref (b + 6))) 6 (.ref (b + 7))) 7 (.ref (b + 8))) 10 (.int (-1 : Int32))), (20, 7, fun _ => (.int 0)), (20, 7, fun _ => (.int 0)), (20, 7, fun _ => (.int 0)), (20, 7, fun _ => (.int 0)), (20, 7, fun _ => (.int 0)), (20, 7, fun _ => (.int 0)), (23, 7, fun _ => (.int 0)), (23, 7, fun _ => (.int 0))]
set_option maxRecDepth 100000 in
theorem c55_ok (hp0 : xNPc pF)  : xCo pF (d + 1) 55 [.ref b] (hbl G b [ocell 7], b + 1, u) none (hbl G b (c55_F b ), b + 9, u + 7 + 7 + 7 + 7 + 7 + 7 + 7 + 7) := by
  refine xCo_Ri (k := kT55) (o := 7) (ml := 1) (n := 0) (ret := none) rfl rfl (by decide +kernel) (bytes := cX3_init) rfl (Nat.le_of_ble_eq_true rfl) (hp0 55 (by decide) _ _) ?_
  refine eE_aload_n yl55_0 (x := b) rfl ?_
  refine eE_obj yl55_1 (by decide +kernel) (by decide +kernel) (by decide +kernel) (Nat.le_of_ble_eq_true rfl) ?_
  refine eE_aload_n yl55_4 (x := b) rfl ?_
  rw [show (.ref b : Value) = .ref (b + 0) from rfl]
  refine eE_bipush (v := 7) yl55_5 (by decide +kernel) ?_
  refine bE_newa (N := 1) (j := 0) (m := 7) (dv := (.int 0)) yl55_7 rfl ⟨by decide +kernel, by decide +kernel, by decide⟩ rfl rfl ?_
  refine bE_put (i := 0) (ci := 7) (f := 0) (ty := (.array .int)) yl55_9 (by decide +kernel) rfl rfl (by decide +kernel) (Or.inr ⟨rfl, by decide +kernel⟩) (by decide +kernel) rfl ?_
  refine eE_aload_n yl55_12 (x := b) rfl ?_
  rw [show (.ref b : Value) = .ref (b + 0) from rfl]
  refine eE_bipush (v := 7) yl55_13 (by decide +kernel) ?_
  refine bE_newa (N := 2) (j := 0) (m := 7) (dv := (.int 0)) yl55_15 rfl ⟨by decide +kernel, by decide +kernel, by decide⟩ rfl rfl ?_
  refine bE_put (i := 0) (ci := 7) (f := 1) (ty := (.array .int)) yl55_17 (by decide +kernel) rfl rfl (by decide +kernel) (Or.inr ⟨rfl, by decide +kernel⟩) (by decide +kernel) rfl ?_
  refine eE_aload_n yl55_20 (x := b) rfl ?_
  rw [show (.ref b : Value) = .ref (b + 0) from rfl]
  refine eE_bipush (v := 7) yl55_21 (by decide +kernel) ?_
  refine bE_newa (N := 3) (j := 0) (m := 7) (dv := (.int 0)) yl55_23 rfl ⟨by decide +kernel, by decide +kernel, by decide⟩ rfl rfl ?_
  refine bE_put (i := 0) (ci := 7) (f := 2) (ty := (.array .int)) yl55_25 (by decide +kernel) rfl rfl (by decide +kernel) (Or.inr ⟨rfl, by decide +kernel⟩) (by decide +kernel) rfl ?_
  refine eE_aload_n yl55_28 (x := b) rfl ?_
  rw [show (.ref b : Value) = .ref (b + 0) from rfl]
  refine eE_bipush (v := 7) yl55_29 (by decide +kernel) ?_
  refine bE_newa (N := 4) (j := 0) (m := 7) (dv := (.int 0)) yl55_31 rfl ⟨by decide +kernel, by decide +kernel, by decide⟩ rfl rfl ?_
  refine bE_put (i := 0) (ci := 7) (f := 3) (ty := (.array .int)) yl55_33 (by decide +kernel) rfl rfl (by decide +kernel) (Or.inr ⟨rfl, by decide +kernel⟩) (by decide +kernel) rfl ?_
  refine eE_aload_n yl55_36 (x := b) rfl ?_
  rw [show (.ref b : Value) = .ref (b + 0) from rfl]
  refine eE_bipush (v := 7) yl55_37 (by decide +kernel) ?_
  refine bE_newa (N := 5) (j := 0) (m := 7) (dv := (.int 0)) yl55_39 rfl ⟨by decide +kernel, by decide +kernel, by decide⟩ rfl rfl ?_
  refine bE_put (i := 0) (ci := 7) (f := 4) (ty := (.array .int)) yl55_41 (by decide +kernel) rfl rfl (by decide +kernel) (Or.inr ⟨rfl, by decide +kernel⟩) (by decide +kernel) rfl ?_
  refine eE_aload_n yl55_44 (x := b) rfl ?_
  rw [show (.ref b : Value) = .ref (b + 0) from rfl]
  refine eE_bipush (v := 7) yl55_45 (by decide +kernel) ?_
  refine bE_newa (N := 6) (j := 0) (m := 7) (dv := (.int 0)) yl55_47 rfl ⟨by decide +kernel, by decide +kernel, by decide⟩ rfl rfl ?_
  refine bE_put (i := 0) (ci := 7) (f := 5) (ty := (.array .int)) yl55_49 (by decide +kernel) rfl rfl (by decide +kernel) (Or.inr ⟨rfl, by decide +kernel⟩) (by decide +kernel) rfl ?_
  refine eE_aload_n yl55_52 (x := b) rfl ?_
  rw [show (.ref b : Value) = .ref (b + 0) from rfl]
  refine eE_bipush (v := 7) yl55_53 (by decide +kernel) ?_
  refine bE_newa (N := 7) (j := 3) (m := 7) (dv := (.int 0)) yl55_55 rfl ⟨by decide +kernel, by decide +kernel, by decide⟩ rfl rfl ?_
  refine bE_put (i := 0) (ci := 7) (f := 6) (ty := (.array .boolean)) yl55_57 (by decide +kernel) rfl rfl (by decide +kernel) (Or.inr ⟨rfl, by decide +kernel⟩) (by decide +kernel) rfl ?_
  refine eE_aload_n yl55_60 (x := b) rfl ?_
  rw [show (.ref b : Value) = .ref (b + 0) from rfl]
  refine eE_bipush (v := 7) yl55_61 (by decide +kernel) ?_
  refine bE_newa (N := 8) (j := 3) (m := 7) (dv := (.int 0)) yl55_63 rfl ⟨by decide +kernel, by decide +kernel, by decide⟩ rfl rfl ?_
  refine bE_put (i := 0) (ci := 7) (f := 7) (ty := (.array .boolean)) yl55_65 (by decide +kernel) rfl rfl (by decide +kernel) (Or.inr ⟨rfl, by decide +kernel⟩) (by decide +kernel) rfl ?_
  refine eE_aload_n yl55_68 (x := b) rfl ?_
  rw [show (.ref b : Value) = .ref (b + 0) from rfl]
  refine eE_iconst (v := -1) yl55_69 (by decide +kernel) ?_
  refine bE_put (i := 0) (ci := 7) (f := 10) (ty := .int) yl55_70 (by decide +kernel) rfl rfl (by decide +kernel) (Or.inr ⟨rfl, by decide +kernel⟩) (by decide +kernel) rfl ?_
  exact eE_end yl55_73 rfl rfl rfl
theorem yl68_0 : xAt kT68 0 (.aload_n 0) 1 := ⟨1, rfl, Or.inr rfl, rfl⟩
theorem yl68_1 : xAt kT68 1 (.invokespecial 3) 4 := ⟨3, rfl, Or.inr rfl, rfl⟩
theorem yl68_4 : xAt kT68 4 (.aload_n 0) 5 := ⟨1, rfl, Or.inr rfl, rfl⟩
theorem yl68_5 : xAt kT68 5 (.sipush 1800) 8 := ⟨3, rfl, Or.inr rfl, rfl⟩
theorem yl68_8 : xAt kT68 8 (.newarray .int) 10 := ⟨2, rfl, Or.inr rfl, rfl⟩
theorem yl68_10 : xAt kT68 10 (.putfield 9) 13 := ⟨3, rfl, Or.inr rfl, rfl⟩
theorem yl68_13 : xAt kT68 13 (.aload_n 0) 14 := ⟨1, rfl, Or.inr rfl, rfl⟩
theorem yl68_14 : xAt kT68 14 (.bipush 6) 16 := ⟨2, rfl, Or.inr rfl, rfl⟩
theorem yl68_16 : xAt kT68 16 (.newarray .int) 18 := ⟨2, rfl, Or.inr rfl, rfl⟩
theorem yl68_18 : xAt kT68 18 (.putfield 15) 21 := ⟨3, rfl, Or.inr rfl, rfl⟩
theorem yl68_21 : xAt kT68 21 (.aload_n 0) 22 := ⟨1, rfl, Or.inr rfl, rfl⟩
theorem yl68_22 : xAt kT68 22 (.iload_n 1) 23 := ⟨1, rfl, Or.inr rfl, rfl⟩
theorem yl68_23 : xAt kT68 23 (.putfield 18) 26 := ⟨3, rfl, Or.inr rfl, rfl⟩
theorem yl68_26 : xAt kT68 26 (.aload_n 0) 27 := ⟨1, rfl, Or.inr rfl, rfl⟩
theorem yl68_27 : xAt kT68 27 (.iload_n 1) 28 := ⟨1, rfl, Or.inr rfl, rfl⟩
theorem yl68_28 : xAt kT68 28 (.putfield 22) 31 := ⟨3, rfl, Or.inr rfl, rfl⟩
theorem yl68_31 : xAt kT68 31 (.aload_n 0) 32 := ⟨1, rfl, Or.inr rfl, rfl⟩
theorem yl68_32 : xAt kT68 32 (.iload_n 1) 33 := ⟨1, rfl, Or.inr rfl, rfl⟩
theorem yl68_33 : xAt kT68 33 (.putfield 25) 36 := ⟨3, rfl, Or.inr rfl, rfl⟩
theorem yl68_36 : xAt kT68 36 (.return_) 37 := ⟨1, rfl, Or.inr rfl, rfl⟩
/-- the cells of a new Log at b -/
def c68_F (b : Nat) (l1 : Int32) : List xC := [(10, (xCl 9).2.2, updV (updV (updV (updV (updV ((ocell 9).2.2) 1 (.ref (b + 1))) 2 (.ref (b + 2))) 0 (.int l1)) 5 (.int l1)) 7 (.int l1)), (20, 1800, fun _ => (.int 0)), (20, 6, fun _ => (.int 0))]
set_option maxRecDepth 100000 in
theorem c68_ok (hp0 : xNPc pF) (l1 : Int32) : xCo pF (d + 1) 68 [.ref b, .int l1] (hbl G b [ocell 9], b + 1, u) none (hbl G b (c68_F b l1), b + 3, u + 1800 + 6) := by
  refine xCo_Ri (k := kT68) (o := 9) (ml := 2) (n := 1) (ret := none) rfl rfl (by decide +kernel) (bytes := cX5_init) rfl (Nat.le_of_ble_eq_true rfl) (hp0 68 (by decide) _ _) ?_
  refine eE_aload_n yl68_0 (x := b) rfl ?_
  refine eE_obj yl68_1 (by decide +kernel) (by decide +kernel) (by decide +kernel) (Nat.le_of_ble_eq_true rfl) ?_
  refine eE_aload_n yl68_4 (x := b) rfl ?_
  rw [show (.ref b : Value) = .ref (b + 0) from rfl]
  refine eE_sipush (v := 1800) yl68_5 (by decide +kernel) ?_
  refine bE_newa (N := 1) (j := 0) (m := 1800) (dv := (.int 0)) yl68_8 rfl ⟨by decide +kernel, by decide +kernel, by decide⟩ rfl rfl ?_
  refine bE_put (i := 0) (ci := 9) (f := 1) (ty := (.array .int)) yl68_10 (by decide +kernel) rfl rfl (by decide +kernel) (Or.inr ⟨rfl, by decide +kernel⟩) (by decide +kernel) rfl ?_
  refine eE_aload_n yl68_13 (x := b) rfl ?_
  rw [show (.ref b : Value) = .ref (b + 0) from rfl]
  refine eE_bipush (v := 6) yl68_14 (by decide +kernel) ?_
  refine bE_newa (N := 2) (j := 0) (m := 6) (dv := (.int 0)) yl68_16 rfl ⟨by decide +kernel, by decide +kernel, by decide⟩ rfl rfl ?_
  refine bE_put (i := 0) (ci := 9) (f := 2) (ty := (.array .int)) yl68_18 (by decide +kernel) rfl rfl (by decide +kernel) (Or.inr ⟨rfl, by decide +kernel⟩) (by decide +kernel) rfl ?_
  refine eE_aload_n yl68_21 (x := b) rfl ?_
  rw [show (.ref b : Value) = .ref (b + 0) from rfl]
  refine eE_iload_n yl68_22 (x := l1) rfl ?_
  refine bE_put (i := 0) (ci := 9) (f := 0) (ty := .int) yl68_23 (by decide +kernel) rfl rfl (by decide +kernel) (Or.inr ⟨rfl, by decide +kernel⟩) (by decide +kernel) rfl ?_
  refine eE_aload_n yl68_26 (x := b) rfl ?_
  rw [show (.ref b : Value) = .ref (b + 0) from rfl]
  refine eE_iload_n yl68_27 (x := l1) rfl ?_
  refine bE_put (i := 0) (ci := 9) (f := 5) (ty := .int) yl68_28 (by decide +kernel) rfl rfl (by decide +kernel) (Or.inr ⟨rfl, by decide +kernel⟩) (by decide +kernel) rfl ?_
  refine eE_aload_n yl68_31 (x := b) rfl ?_
  rw [show (.ref b : Value) = .ref (b + 0) from rfl]
  refine eE_iload_n yl68_32 (x := l1) rfl ?_
  refine bE_put (i := 0) (ci := 9) (f := 7) (ty := .int) yl68_33 (by decide +kernel) rfl rfl (by decide +kernel) (Or.inr ⟨rfl, by decide +kernel⟩) (by decide +kernel) rfl ?_
  exact eE_end yl68_36 rfl rfl rfl
theorem yl108_0 : xAt kT108 0 (.aload_n 0) 1 := ⟨1, rfl, Or.inr rfl, rfl⟩
theorem yl108_1 : xAt kT108 1 (.invokespecial 3) 4 := ⟨3, rfl, Or.inr rfl, rfl⟩
theorem yl108_4 : xAt kT108 4 (.aload_n 0) 5 := ⟨1, rfl, Or.inr rfl, rfl⟩
theorem yl108_5 : xAt kT108 5 (.iconst 0) 6 := ⟨1, rfl, Or.inr rfl, rfl⟩
theorem yl108_6 : xAt kT108 6 (.newarray .int) 8 := ⟨2, rfl, Or.inr rfl, rfl⟩
theorem yl108_8 : xAt kT108 8 (.putfield 9) 11 := ⟨3, rfl, Or.inr rfl, rfl⟩
theorem yl108_11 : xAt kT108 11 (.aload_n 0) 12 := ⟨1, rfl, Or.inr rfl, rfl⟩
theorem yl108_12 : xAt kT108 12 (.iconst 0) 13 := ⟨1, rfl, Or.inr rfl, rfl⟩
theorem yl108_13 : xAt kT108 13 (.newarray .int) 15 := ⟨2, rfl, Or.inr rfl, rfl⟩
theorem yl108_15 : xAt kT108 15 (.putfield 15) 18 := ⟨3, rfl, Or.inr rfl, rfl⟩
theorem yl108_18 : xAt kT108 18 (.aload_n 0) 19 := ⟨1, rfl, Or.inr rfl, rfl⟩
theorem yl108_19 : xAt kT108 19 (.iconst 0) 20 := ⟨1, rfl, Or.inr rfl, rfl⟩
theorem yl108_20 : xAt kT108 20 (.newarray .byte) 22 := ⟨2, rfl, Or.inr rfl, rfl⟩
theorem yl108_22 : xAt kT108 22 (.putfield 18) 25 := ⟨3, rfl, Or.inr rfl, rfl⟩
theorem yl108_25 : xAt kT108 25 (.return_) 26 := ⟨1, rfl, Or.inr rfl, rfl⟩
/-- the cells of a new Page at b -/
def c108_F (b : Nat)  : List xC := [(12, (xCl 11).2.2, updV (updV (updV ((ocell 11).2.2) 6 (.ref (b + 1))) 7 (.ref (b + 2))) 8 (.ref (b + 3))), (20, 0, fun _ => (.int 0)), (20, 0, fun _ => (.int 0)), (22, 0, fun _ => (.int 0))]
set_option maxRecDepth 100000 in
theorem c108_ok (hp0 : xNPc pF)  : xCo pF (d + 1) 108 [.ref b] (hbl G b [ocell 11], b + 1, u) none (hbl G b (c108_F b ), b + 4, u + 0 + 0 + 0) := by
  refine xCo_Ri (k := kT108) (o := 11) (ml := 1) (n := 0) (ret := none) rfl rfl (by decide +kernel) (bytes := cX7_init) rfl (Nat.le_of_ble_eq_true rfl) (hp0 108 (by decide) _ _) ?_
  refine eE_aload_n yl108_0 (x := b) rfl ?_
  refine eE_obj yl108_1 (by decide +kernel) (by decide +kernel) (by decide +kernel) (Nat.le_of_ble_eq_true rfl) ?_
  refine eE_aload_n yl108_4 (x := b) rfl ?_
  rw [show (.ref b : Value) = .ref (b + 0) from rfl]
  refine eE_iconst (v := 0) yl108_5 (by decide +kernel) ?_
  refine bE_newa (N := 1) (j := 0) (m := 0) (dv := (.int 0)) yl108_6 rfl ⟨by decide +kernel, by decide +kernel, by decide⟩ rfl rfl ?_
  refine bE_put (i := 0) (ci := 11) (f := 6) (ty := (.array .int)) yl108_8 (by decide +kernel) rfl rfl (by decide +kernel) (Or.inr ⟨rfl, by decide +kernel⟩) (by decide +kernel) rfl ?_
  refine eE_aload_n yl108_11 (x := b) rfl ?_
  rw [show (.ref b : Value) = .ref (b + 0) from rfl]
  refine eE_iconst (v := 0) yl108_12 (by decide +kernel) ?_
  refine bE_newa (N := 2) (j := 0) (m := 0) (dv := (.int 0)) yl108_13 rfl ⟨by decide +kernel, by decide +kernel, by decide⟩ rfl rfl ?_
  refine bE_put (i := 0) (ci := 11) (f := 7) (ty := (.array .int)) yl108_15 (by decide +kernel) rfl rfl (by decide +kernel) (Or.inr ⟨rfl, by decide +kernel⟩) (by decide +kernel) rfl ?_
  refine eE_aload_n yl108_18 (x := b) rfl ?_
  rw [show (.ref b : Value) = .ref (b + 0) from rfl]
  refine eE_iconst (v := 0) yl108_19 (by decide +kernel) ?_
  refine bE_newa (N := 3) (j := 2) (m := 0) (dv := (.int 0)) yl108_20 rfl ⟨by decide +kernel, by decide +kernel, by decide⟩ rfl rfl ?_
  refine bE_put (i := 0) (ci := 11) (f := 8) (ty := (.array .byte)) yl108_22 (by decide +kernel) rfl rfl (by decide +kernel) (Or.inr ⟨rfl, by decide +kernel⟩) (by decide +kernel) rfl ?_
  exact eE_end yl108_25 rfl rfl rfl
theorem yl118_0 : xAt kT118 0 (.aload_n 0) 1 := ⟨1, rfl, Or.inr rfl, rfl⟩
theorem yl118_1 : xAt kT118 1 (.invokespecial 3) 4 := ⟨3, rfl, Or.inr rfl, rfl⟩
theorem yl118_4 : xAt kT118 4 (.aload_n 0) 5 := ⟨1, rfl, Or.inr rfl, rfl⟩
theorem yl118_5 : xAt kT118 5 (.bipush 32) 7 := ⟨2, rfl, Or.inr rfl, rfl⟩
theorem yl118_7 : xAt kT118 7 (.newarray .boolean) 9 := ⟨2, rfl, Or.inr rfl, rfl⟩
theorem yl118_9 : xAt kT118 9 (.putfield 9) 12 := ⟨3, rfl, Or.inr rfl, rfl⟩
theorem yl118_12 : xAt kT118 12 (.aload_n 0) 13 := ⟨1, rfl, Or.inr rfl, rfl⟩
theorem yl118_13 : xAt kT118 13 (.bipush 32) 15 := ⟨2, rfl, Or.inr rfl, rfl⟩
theorem yl118_15 : xAt kT118 15 (.newarray .int) 17 := ⟨2, rfl, Or.inr rfl, rfl⟩
theorem yl118_17 : xAt kT118 17 (.putfield 15) 20 := ⟨3, rfl, Or.inr rfl, rfl⟩
theorem yl118_20 : xAt kT118 20 (.aload_n 0) 21 := ⟨1, rfl, Or.inr rfl, rfl⟩
theorem yl118_21 : xAt kT118 21 (.bipush 32) 23 := ⟨2, rfl, Or.inr rfl, rfl⟩
theorem yl118_23 : xAt kT118 23 (.newarray .int) 25 := ⟨2, rfl, Or.inr rfl, rfl⟩
theorem yl118_25 : xAt kT118 25 (.putfield 19) 28 := ⟨3, rfl, Or.inr rfl, rfl⟩
theorem yl118_28 : xAt kT118 28 (.aload_n 0) 29 := ⟨1, rfl, Or.inr rfl, rfl⟩
theorem yl118_29 : xAt kT118 29 (.bipush 32) 31 := ⟨2, rfl, Or.inr rfl, rfl⟩
theorem yl118_31 : xAt kT118 31 (.newarray .int) 33 := ⟨2, rfl, Or.inr rfl, rfl⟩
theorem yl118_33 : xAt kT118 33 (.putfield 22) 36 := ⟨3, rfl, Or.inr rfl, rfl⟩
theorem yl118_36 : xAt kT118 36 (.aload_n 0) 37 := ⟨1, rfl, Or.inr rfl, rfl⟩
theorem yl118_37 : xAt kT118 37 (.bipush 32) 39 := ⟨2, rfl, Or.inr rfl, rfl⟩
theorem yl118_39 : xAt kT118 39 (.newarray .int) 41 := ⟨2, rfl, Or.inr rfl, rfl⟩
theorem yl118_41 : xAt kT118 41 (.putfield 25) 44 := ⟨3, rfl, Or.inr rfl, rfl⟩
theorem yl118_44 : xAt kT118 44 (.aload_n 0) 45 := ⟨1, rfl, Or.inr rfl, rfl⟩
theorem yl118_45 : xAt kT118 45 (.bipush 32) 47 := ⟨2, rfl, Or.inr rfl, rfl⟩
theorem yl118_47 : xAt kT118 47 (.newarray .int) 49 := ⟨2, rfl, Or.inr rfl, rfl⟩
theorem yl118_49 : xAt kT118 49 (.putfield 28) 52 := ⟨3, rfl, Or.inr rfl, rfl⟩
theorem yl118_52 : xAt kT118 52 (.aload_n 0) 53 := ⟨1, rfl, Or.inr rfl, rfl⟩
theorem yl118_53 : xAt kT118 53 (.bipush 32) 55 := ⟨2, rfl, Or.inr rfl, rfl⟩
theorem yl118_55 : xAt kT118 55 (.newarray .int) 57 := ⟨2, rfl, Or.inr rfl, rfl⟩
theorem yl118_57 : xAt kT118 57 (.putfield 31) 60 := ⟨3, rfl, Or.inr rfl, rfl⟩
theorem yl118_60 : xAt kT118 60 (.return_) 61 := ⟨1, rfl, Or.inr rfl, rfl⟩
/-- the cells of a new Requests at b -/
def c118_F (b : Nat)  : List xC := [(13, (xCl 12).2.2, updV (updV (updV (updV (updV (updV (updV ((ocell 12).2.2) 0 (.ref (b + 1))) 1 (.ref (b + 2))) 2 (.ref (b + 3))) 3 (.ref (b + 4))) 4 (.ref (b + 5))) 5 (.ref (b + 6))) 6 (.ref (b + 7))), (23, 32, fun _ => (.int 0)), (20, 32, fun _ => (.int 0)), (20, 32, fun _ => (.int 0)), (20, 32, fun _ => (.int 0)), (20, 32, fun _ => (.int 0)), (20, 32, fun _ => (.int 0)), (20, 32, fun _ => (.int 0))]
set_option maxRecDepth 100000 in
theorem c118_ok (hp0 : xNPc pF)  : xCo pF (d + 1) 118 [.ref b] (hbl G b [ocell 12], b + 1, u) none (hbl G b (c118_F b ), b + 8, u + 32 + 32 + 32 + 32 + 32 + 32 + 32) := by
  refine xCo_Ri (k := kT118) (o := 12) (ml := 1) (n := 0) (ret := none) rfl rfl (by decide +kernel) (bytes := cX8_init) rfl (Nat.le_of_ble_eq_true rfl) (hp0 118 (by decide) _ _) ?_
  refine eE_aload_n yl118_0 (x := b) rfl ?_
  refine eE_obj yl118_1 (by decide +kernel) (by decide +kernel) (by decide +kernel) (Nat.le_of_ble_eq_true rfl) ?_
  refine eE_aload_n yl118_4 (x := b) rfl ?_
  rw [show (.ref b : Value) = .ref (b + 0) from rfl]
  refine eE_bipush (v := 32) yl118_5 (by decide +kernel) ?_
  refine bE_newa (N := 1) (j := 3) (m := 32) (dv := (.int 0)) yl118_7 rfl ⟨by decide +kernel, by decide +kernel, by decide⟩ rfl rfl ?_
  refine bE_put (i := 0) (ci := 12) (f := 0) (ty := (.array .boolean)) yl118_9 (by decide +kernel) rfl rfl (by decide +kernel) (Or.inr ⟨rfl, by decide +kernel⟩) (by decide +kernel) rfl ?_
  refine eE_aload_n yl118_12 (x := b) rfl ?_
  rw [show (.ref b : Value) = .ref (b + 0) from rfl]
  refine eE_bipush (v := 32) yl118_13 (by decide +kernel) ?_
  refine bE_newa (N := 2) (j := 0) (m := 32) (dv := (.int 0)) yl118_15 rfl ⟨by decide +kernel, by decide +kernel, by decide⟩ rfl rfl ?_
  refine bE_put (i := 0) (ci := 12) (f := 1) (ty := (.array .int)) yl118_17 (by decide +kernel) rfl rfl (by decide +kernel) (Or.inr ⟨rfl, by decide +kernel⟩) (by decide +kernel) rfl ?_
  refine eE_aload_n yl118_20 (x := b) rfl ?_
  rw [show (.ref b : Value) = .ref (b + 0) from rfl]
  refine eE_bipush (v := 32) yl118_21 (by decide +kernel) ?_
  refine bE_newa (N := 3) (j := 0) (m := 32) (dv := (.int 0)) yl118_23 rfl ⟨by decide +kernel, by decide +kernel, by decide⟩ rfl rfl ?_
  refine bE_put (i := 0) (ci := 12) (f := 2) (ty := (.array .int)) yl118_25 (by decide +kernel) rfl rfl (by decide +kernel) (Or.inr ⟨rfl, by decide +kernel⟩) (by decide +kernel) rfl ?_
  refine eE_aload_n yl118_28 (x := b) rfl ?_
  rw [show (.ref b : Value) = .ref (b + 0) from rfl]
  refine eE_bipush (v := 32) yl118_29 (by decide +kernel) ?_
  refine bE_newa (N := 4) (j := 0) (m := 32) (dv := (.int 0)) yl118_31 rfl ⟨by decide +kernel, by decide +kernel, by decide⟩ rfl rfl ?_
  refine bE_put (i := 0) (ci := 12) (f := 3) (ty := (.array .int)) yl118_33 (by decide +kernel) rfl rfl (by decide +kernel) (Or.inr ⟨rfl, by decide +kernel⟩) (by decide +kernel) rfl ?_
  refine eE_aload_n yl118_36 (x := b) rfl ?_
  rw [show (.ref b : Value) = .ref (b + 0) from rfl]
  refine eE_bipush (v := 32) yl118_37 (by decide +kernel) ?_
  refine bE_newa (N := 5) (j := 0) (m := 32) (dv := (.int 0)) yl118_39 rfl ⟨by decide +kernel, by decide +kernel, by decide⟩ rfl rfl ?_
  refine bE_put (i := 0) (ci := 12) (f := 4) (ty := (.array .int)) yl118_41 (by decide +kernel) rfl rfl (by decide +kernel) (Or.inr ⟨rfl, by decide +kernel⟩) (by decide +kernel) rfl ?_
  refine eE_aload_n yl118_44 (x := b) rfl ?_
  rw [show (.ref b : Value) = .ref (b + 0) from rfl]
  refine eE_bipush (v := 32) yl118_45 (by decide +kernel) ?_
  refine bE_newa (N := 6) (j := 0) (m := 32) (dv := (.int 0)) yl118_47 rfl ⟨by decide +kernel, by decide +kernel, by decide⟩ rfl rfl ?_
  refine bE_put (i := 0) (ci := 12) (f := 5) (ty := (.array .int)) yl118_49 (by decide +kernel) rfl rfl (by decide +kernel) (Or.inr ⟨rfl, by decide +kernel⟩) (by decide +kernel) rfl ?_
  refine eE_aload_n yl118_52 (x := b) rfl ?_
  rw [show (.ref b : Value) = .ref (b + 0) from rfl]
  refine eE_bipush (v := 32) yl118_53 (by decide +kernel) ?_
  refine bE_newa (N := 7) (j := 0) (m := 32) (dv := (.int 0)) yl118_55 rfl ⟨by decide +kernel, by decide +kernel, by decide⟩ rfl rfl ?_
  refine bE_put (i := 0) (ci := 12) (f := 6) (ty := (.array .int)) yl118_57 (by decide +kernel) rfl rfl (by decide +kernel) (Or.inr ⟨rfl, by decide +kernel⟩) (by decide +kernel) rfl ?_
  exact eE_end yl118_60 rfl rfl rfl
end CL
