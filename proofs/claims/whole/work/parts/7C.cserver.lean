/-! Server's constructor (printed by wip/whole/gen_cserver.py) -/
theorem yl140_0 : xAt kT140 0 (.aload_n 0) 1 := ⟨1, rfl, Or.inr rfl, rfl⟩
theorem yl140_1 : xAt kT140 1 (.invokespecial 3) 4 := ⟨3, rfl, Or.inr rfl, rfl⟩
theorem yl140_4 : xAt kT140 4 (.aload_n 0) 5 := ⟨1, rfl, Or.inr rfl, rfl⟩
theorem yl140_5 : xAt kT140 5 (.new 9) 8 := ⟨3, rfl, Or.inr rfl, rfl⟩
theorem yl140_8 : xAt kT140 8 (.dup) 9 := ⟨1, rfl, Or.inr rfl, rfl⟩
theorem yl140_9 : xAt kT140 9 (.invokespecial 11) 12 := ⟨3, rfl, Or.inr rfl, rfl⟩
theorem yl140_12 : xAt kT140 12 (.putfield 12) 15 := ⟨3, rfl, Or.inr rfl, rfl⟩
theorem yl140_15 : xAt kT140 15 (.aload_n 0) 16 := ⟨1, rfl, Or.inr rfl, rfl⟩
theorem yl140_16 : xAt kT140 16 (.new 18) 19 := ⟨3, rfl, Or.inr rfl, rfl⟩
theorem yl140_19 : xAt kT140 19 (.dup) 20 := ⟨1, rfl, Or.inr rfl, rfl⟩
theorem yl140_20 : xAt kT140 20 (.invokespecial 20) 23 := ⟨3, rfl, Or.inr rfl, rfl⟩
theorem yl140_23 : xAt kT140 23 (.putfield 21) 26 := ⟨3, rfl, Or.inr rfl, rfl⟩
theorem yl140_26 : xAt kT140 26 (.aload_n 0) 27 := ⟨1, rfl, Or.inr rfl, rfl⟩
theorem yl140_27 : xAt kT140 27 (.new 25) 30 := ⟨3, rfl, Or.inr rfl, rfl⟩
theorem yl140_30 : xAt kT140 30 (.dup) 31 := ⟨1, rfl, Or.inr rfl, rfl⟩
theorem yl140_31 : xAt kT140 31 (.invokespecial 27) 34 := ⟨3, rfl, Or.inr rfl, rfl⟩
theorem yl140_34 : xAt kT140 34 (.putfield 28) 37 := ⟨3, rfl, Or.inr rfl, rfl⟩
theorem yl140_37 : xAt kT140 37 (.aload_n 0) 38 := ⟨1, rfl, Or.inr rfl, rfl⟩
theorem yl140_38 : xAt kT140 38 (.new 32) 41 := ⟨3, rfl, Or.inr rfl, rfl⟩
theorem yl140_41 : xAt kT140 41 (.dup) 42 := ⟨1, rfl, Or.inr rfl, rfl⟩
theorem yl140_42 : xAt kT140 42 (.invokespecial 34) 45 := ⟨3, rfl, Or.inr rfl, rfl⟩
theorem yl140_45 : xAt kT140 45 (.putfield 35) 48 := ⟨3, rfl, Or.inr rfl, rfl⟩
theorem yl140_48 : xAt kT140 48 (.aload_n 0) 49 := ⟨1, rfl, Or.inr rfl, rfl⟩
theorem yl140_49 : xAt kT140 49 (.iconst 1) 50 := ⟨1, rfl, Or.inr rfl, rfl⟩
theorem yl140_50 : xAt kT140 50 (.putfield 39) 53 := ⟨3, rfl, Or.inr rfl, rfl⟩
theorem yl140_53 : xAt kT140 53 (.aload_n 0) 54 := ⟨1, rfl, Or.inr rfl, rfl⟩
theorem yl140_54 : xAt kT140 54 (.iconst (-1)) 55 := ⟨1, rfl, Or.inr rfl, rfl⟩
theorem yl140_55 : xAt kT140 55 (.putfield 43) 58 := ⟨3, rfl, Or.inr rfl, rfl⟩
theorem yl140_58 : xAt kT140 58 (.aload_n 0) 59 := ⟨1, rfl, Or.inr rfl, rfl⟩
theorem yl140_59 : xAt kT140 59 (.iconst (-1)) 60 := ⟨1, rfl, Or.inr rfl, rfl⟩
theorem yl140_60 : xAt kT140 60 (.putfield 47) 63 := ⟨3, rfl, Or.inr rfl, rfl⟩
theorem yl140_63 : xAt kT140 63 (.aload_n 0) 64 := ⟨1, rfl, Or.inr rfl, rfl⟩
theorem yl140_64 : xAt kT140 64 (.iconst (-1)) 65 := ⟨1, rfl, Or.inr rfl, rfl⟩
theorem yl140_65 : xAt kT140 65 (.putfield 50) 68 := ⟨3, rfl, Or.inr rfl, rfl⟩
theorem yl140_68 : xAt kT140 68 (.aload_n 0) 69 := ⟨1, rfl, Or.inr rfl, rfl⟩
theorem yl140_69 : xAt kT140 69 (.iconst (-1)) 70 := ⟨1, rfl, Or.inr rfl, rfl⟩
theorem yl140_70 : xAt kT140 70 (.putfield 53) 73 := ⟨3, rfl, Or.inr rfl, rfl⟩
theorem yl140_73 : xAt kT140 73 (.aload_n 0) 74 := ⟨1, rfl, Or.inr rfl, rfl⟩
theorem yl140_74 : xAt kT140 74 (.iconst 0) 75 := ⟨1, rfl, Or.inr rfl, rfl⟩
theorem yl140_75 : xAt kT140 75 (.newarray .byte) 77 := ⟨2, rfl, Or.inr rfl, rfl⟩
theorem yl140_77 : xAt kT140 77 (.putfield 56) 80 := ⟨3, rfl, Or.inr rfl, rfl⟩
theorem yl140_80 : xAt kT140 80 (.aload_n 0) 81 := ⟨1, rfl, Or.inr rfl, rfl⟩
theorem yl140_81 : xAt kT140 81 (.iload_n 1) 82 := ⟨1, rfl, Or.inr rfl, rfl⟩
theorem yl140_82 : xAt kT140 82 (.putfield 60) 85 := ⟨3, rfl, Or.inr rfl, rfl⟩
theorem yl140_85 : xAt kT140 85 (.aload_n 0) 86 := ⟨1, rfl, Or.inr rfl, rfl⟩
theorem yl140_86 : xAt kT140 86 (.aload_n 3) 87 := ⟨1, rfl, Or.inr rfl, rfl⟩
theorem yl140_87 : xAt kT140 87 (.putfield 63) 90 := ⟨3, rfl, Or.inr rfl, rfl⟩
theorem yl140_90 : xAt kT140 90 (.aload_n 0) 91 := ⟨1, rfl, Or.inr rfl, rfl⟩
theorem yl140_91 : xAt kT140 91 (.new 67) 94 := ⟨3, rfl, Or.inr rfl, rfl⟩
theorem yl140_94 : xAt kT140 94 (.dup) 95 := ⟨1, rfl, Or.inr rfl, rfl⟩
theorem yl140_95 : xAt kT140 95 (.iload_n 2) 96 := ⟨1, rfl, Or.inr rfl, rfl⟩
theorem yl140_96 : xAt kT140 96 (.invokespecial 69) 99 := ⟨3, rfl, Or.inr rfl, rfl⟩
theorem yl140_99 : xAt kT140 99 (.putfield 72) 102 := ⟨3, rfl, Or.inr rfl, rfl⟩
theorem yl140_102 : xAt kT140 102 (.aload_n 0) 103 := ⟨1, rfl, Or.inr rfl, rfl⟩
theorem yl140_103 : xAt kT140 103 (.new 76) 106 := ⟨3, rfl, Or.inr rfl, rfl⟩
theorem yl140_106 : xAt kT140 106 (.dup) 107 := ⟨1, rfl, Or.inr rfl, rfl⟩
theorem yl140_107 : xAt kT140 107 (.aload 4) 109 := ⟨2, rfl, Or.inr rfl, rfl⟩
theorem yl140_109 : xAt kT140 109 (.invokespecial 78) 112 := ⟨3, rfl, Or.inr rfl, rfl⟩
theorem yl140_112 : xAt kT140 112 (.putfield 81) 115 := ⟨3, rfl, Or.inr rfl, rfl⟩
theorem yl140_115 : xAt kT140 115 (.return_) 116 := ⟨1, rfl, Or.inr rfl, rfl⟩
section CS1
variable {pF : Nat → List Value → xH → Option (Option Value × xH)} {d : Nat} {G : Nat → xC} {b u eD : Nat} {hh : xH} {lv : xL}
set_option maxRecDepth 100000 in
theorem c140_s4 (hB : yB eD pF) (hp0 : xNPc pF) {x0 : xC} {R : List xC} {N : Nat} (g0 : xg lv 0 = some (.ref b)) (hx : x0.1 = 14) (hN : (x0 :: R).length = N) (kk : xR pF (d + 5) kT140 13 5 true none none hh (15, lv, [], (hbl G b ((x0.1, x0.2.1, updV x0.2.2 2 (.ref (b + N))) :: (R ++ c40_F (b + N))), b + (N + 126), pgu (u + (xCl 6).2.2 + 16 + 16 + 16 + 16 + 16) 30))) : xR pF (d + 5) kT140 13 5 true none none hh (4, lv, [], (hbl G b (x0 :: R), b + N, u)) := by
  refine eE_aload_n yl140_4 (x := b) g0 ?_
  rw [show (.ref b : Value) = .ref (b + 0) from rfl]
  refine bE_new (N := N) (ci := 6) yl140_5 (by decide +kernel) (by decide +kernel) hN ?_
  refine eE_dup yl140_8 rfl ?_
  refine bE_init (as := []) (n := 0) (y := 40) (m := 126) (ci := 6) (F := c40_F (b + N)) (u' := pgu (u + (xCl 6).2.2 + 16 + 16 + 16 + 16 + 16) 30) yl140_9 (Or.inl (by decide +kernel)) (by decide +kernel) rfl rfl (Nat.le_of_ble_eq_true rfl) (by decide +kernel) hN (c40_ok (d := d + 3) hp0) ?_
  refine bE_put (i := 0) (ci := 13) (f := 2) (ty := (.object "AgreedStore$Disk")) yl140_12 (by decide +kernel) rfl hx (by decide +kernel) (Or.inr ⟨rfl, by decide +kernel⟩) (by decide +kernel) rfl ?_
  exact kk
set_option maxRecDepth 100000 in
theorem c140_s15 (hB : yB eD pF) (hp0 : xNPc pF) {x0 : xC} {R : List xC} {N : Nat} (g0 : xg lv 0 = some (.ref b)) (hx : x0.1 = 14) (hN : (x0 :: R).length = N) (kk : xR pF (d + 5) kT140 13 5 true none none hh (26, lv, [], (hbl G b ((x0.1, x0.2.1, updV x0.2.2 5 (.ref (b + N))) :: (R ++ c55_F (b + N))), b + (N + 9), u + (xCl 7).2.2 + 7 + 7 + 7 + 7 + 7 + 7 + 7 + 7))) : xR pF (d + 5) kT140 13 5 true none none hh (15, lv, [], (hbl G b (x0 :: R), b + N, u)) := by
  refine eE_aload_n yl140_15 (x := b) g0 ?_
  rw [show (.ref b : Value) = .ref (b + 0) from rfl]
  refine bE_new (N := N) (ci := 7) yl140_16 (by decide +kernel) (by decide +kernel) hN ?_
  refine eE_dup yl140_19 rfl ?_
  refine bE_init (as := []) (n := 0) (y := 55) (m := 9) (ci := 7) (F := c55_F (b + N)) (u' := u + (xCl 7).2.2 + 7 + 7 + 7 + 7 + 7 + 7 + 7 + 7) yl140_20 (Or.inr (by decide +kernel)) (by decide +kernel) rfl rfl (Nat.le_of_ble_eq_true rfl) (by decide +kernel) hN (c55_ok (d := d + 4) hp0) ?_
  refine bE_put (i := 0) (ci := 13) (f := 5) (ty := (.object "AgreedStore$Lead")) yl140_23 (by decide +kernel) rfl hx (by decide +kernel) (Or.inr ⟨rfl, by decide +kernel⟩) (by decide +kernel) rfl ?_
  exact kk
set_option maxRecDepth 100000 in
theorem c140_s26 (hB : yB eD pF) (hp0 : xNPc pF) {x0 : xC} {R : List xC} {N : Nat} (g0 : xg lv 0 = some (.ref b)) (hx : x0.1 = 14) (hN : (x0 :: R).length = N) (kk : xR pF (d + 5) kT140 13 5 true none none hh (37, lv, [], (hbl G b ((x0.1, x0.2.1, updV x0.2.2 6 (.ref (b + N))) :: (R ++ c118_F (b + N))), b + (N + 8), u + (xCl 12).2.2 + 32 + 32 + 32 + 32 + 32 + 32 + 32))) : xR pF (d + 5) kT140 13 5 true none none hh (26, lv, [], (hbl G b (x0 :: R), b + N, u)) := by
  refine eE_aload_n yl140_26 (x := b) g0 ?_
  rw [show (.ref b : Value) = .ref (b + 0) from rfl]
  refine bE_new (N := N) (ci := 12) yl140_27 (by decide +kernel) (by decide +kernel) hN ?_
  refine eE_dup yl140_30 rfl ?_
  refine bE_init (as := []) (n := 0) (y := 118) (m := 8) (ci := 12) (F := c118_F (b + N)) (u' := u + (xCl 12).2.2 + 32 + 32 + 32 + 32 + 32 + 32 + 32) yl140_31 (Or.inr (by decide +kernel)) (by decide +kernel) rfl rfl (Nat.le_of_ble_eq_true rfl) (by decide +kernel) hN (c118_ok (d := d + 4) hp0) ?_
  refine bE_put (i := 0) (ci := 13) (f := 6) (ty := (.object "AgreedStore$Requests")) yl140_34 (by decide +kernel) rfl hx (by decide +kernel) (Or.inr ⟨rfl, by decide +kernel⟩) (by decide +kernel) rfl ?_
  exact kk
set_option maxRecDepth 100000 in
theorem c140_s37 (hB : yB eD pF) (hp0 : xNPc pF) {x0 : xC} {R : List xC} {N : Nat} (g0 : xg lv 0 = some (.ref b)) (hx : x0.1 = 14) (hN : (x0 :: R).length = N) (kk : xR pF (d + 5) kT140 13 5 true none none hh (48, lv, [], (hbl G b ((x0.1, x0.2.1, updV x0.2.2 7 (.ref (b + N))) :: (R ++ [lcell eD])), b + (N + 1), u + (xCl 3).2.2))) : xR pF (d + 5) kT140 13 5 true none none hh (37, lv, [], (hbl G b (x0 :: R), b + N, u)) := by
  refine eE_aload_n yl140_37 (x := b) g0 ?_
  rw [show (.ref b : Value) = .ref (b + 0) from rfl]
  refine bE_new (N := N) (ci := 3) yl140_38 (by decide +kernel) (by decide +kernel) hN ?_
  refine eE_dup yl140_41 rfl ?_
  refine bE_init (as := []) (n := 0) (y := 9) (m := 1) (ci := 3) (F := [lcell eD]) (u' := u + (xCl 3).2.2) yl140_42 (Or.inl (by decide +kernel)) (by decide +kernel) rfl rfl (Nat.le_of_ble_eq_true rfl) (by decide +kernel) hN (b_list hB 0 rfl) ?_
  refine bE_put (i := 0) (ci := 13) (f := 7) (ty := (.object "java/util/ArrayList")) yl140_45 (by decide +kernel) rfl hx (by decide +kernel) (Or.inr ⟨rfl, by decide +kernel⟩) (by decide +kernel) rfl ?_
  exact kk
set_option maxRecDepth 100000 in
theorem c140_s48 (hB : yB eD pF) (hp0 : xNPc pF) {x0 : xC} {R : List xC} {H : Nat × Nat} (g0 : xg lv 0 = some (.ref b)) (hx : x0.1 = 14) (kk : xR pF (d + 5) kT140 13 5 true none none hh (53, lv, [], (hbl G b ((x0.1, x0.2.1, updV x0.2.2 8 (.int (1 : Int32))) :: R), H))) : xR pF (d + 5) kT140 13 5 true none none hh (48, lv, [], (hbl G b (x0 :: R), H)) := by
  refine eE_aload_n yl140_48 (x := b) g0 ?_
  rw [show (.ref b : Value) = .ref (b + 0) from rfl]
  refine eE_iconst (v := 1) yl140_49 (by decide +kernel) ?_
  refine bE_put (i := 0) (ci := 13) (f := 8) (ty := .boolean) yl140_50 (by decide +kernel) rfl hx (by decide +kernel) (Or.inr ⟨rfl, by decide +kernel⟩) (by decide +kernel) rfl ?_
  exact kk
set_option maxRecDepth 100000 in
theorem c140_s53 (hB : yB eD pF) (hp0 : xNPc pF) {x0 : xC} {R : List xC} {H : Nat × Nat} (g0 : xg lv 0 = some (.ref b)) (hx : x0.1 = 14) (kk : xR pF (d + 5) kT140 13 5 true none none hh (58, lv, [], (hbl G b ((x0.1, x0.2.1, updV x0.2.2 11 (.int (-1 : Int32))) :: R), H))) : xR pF (d + 5) kT140 13 5 true none none hh (53, lv, [], (hbl G b (x0 :: R), H)) := by
  refine eE_aload_n yl140_53 (x := b) g0 ?_
  rw [show (.ref b : Value) = .ref (b + 0) from rfl]
  refine eE_iconst (v := -1) yl140_54 (by decide +kernel) ?_
  refine bE_put (i := 0) (ci := 13) (f := 11) (ty := .int) yl140_55 (by decide +kernel) rfl hx (by decide +kernel) (Or.inr ⟨rfl, by decide +kernel⟩) (by decide +kernel) rfl ?_
  exact kk
set_option maxRecDepth 100000 in
theorem c140_s58 (hB : yB eD pF) (hp0 : xNPc pF) {x0 : xC} {R : List xC} {H : Nat × Nat} (g0 : xg lv 0 = some (.ref b)) (hx : x0.1 = 14) (kk : xR pF (d + 5) kT140 13 5 true none none hh (63, lv, [], (hbl G b ((x0.1, x0.2.1, updV x0.2.2 13 (.int (-1 : Int32))) :: R), H))) : xR pF (d + 5) kT140 13 5 true none none hh (58, lv, [], (hbl G b (x0 :: R), H)) := by
  refine eE_aload_n yl140_58 (x := b) g0 ?_
  rw [show (.ref b : Value) = .ref (b + 0) from rfl]
  refine eE_iconst (v := -1) yl140_59 (by decide +kernel) ?_
  refine bE_put (i := 0) (ci := 13) (f := 13) (ty := .int) yl140_60 (by decide +kernel) rfl hx (by decide +kernel) (Or.inr ⟨rfl, by decide +kernel⟩) (by decide +kernel) rfl ?_
  exact kk
set_option maxRecDepth 100000 in
theorem c140_s63 (hB : yB eD pF) (hp0 : xNPc pF) {x0 : xC} {R : List xC} {H : Nat × Nat} (g0 : xg lv 0 = some (.ref b)) (hx : x0.1 = 14) (kk : xR pF (d + 5) kT140 13 5 true none none hh (68, lv, [], (hbl G b ((x0.1, x0.2.1, updV x0.2.2 14 (.int (-1 : Int32))) :: R), H))) : xR pF (d + 5) kT140 13 5 true none none hh (63, lv, [], (hbl G b (x0 :: R), H)) := by
  refine eE_aload_n yl140_63 (x := b) g0 ?_
  rw [show (.ref b : Value) = .ref (b + 0) from rfl]
  refine eE_iconst (v := -1) yl140_64 (by decide +kernel) ?_
  refine bE_put (i := 0) (ci := 13) (f := 14) (ty := .int) yl140_65 (by decide +kernel) rfl hx (by decide +kernel) (Or.inr ⟨rfl, by decide +kernel⟩) (by decide +kernel) rfl ?_
  exact kk
set_option maxRecDepth 100000 in
theorem c140_s68 (hB : yB eD pF) (hp0 : xNPc pF) {x0 : xC} {R : List xC} {H : Nat × Nat} (g0 : xg lv 0 = some (.ref b)) (hx : x0.1 = 14) (kk : xR pF (d + 5) kT140 13 5 true none none hh (73, lv, [], (hbl G b ((x0.1, x0.2.1, updV x0.2.2 16 (.int (-1 : Int32))) :: R), H))) : xR pF (d + 5) kT140 13 5 true none none hh (68, lv, [], (hbl G b (x0 :: R), H)) := by
  refine eE_aload_n yl140_68 (x := b) g0 ?_
  rw [show (.ref b : Value) = .ref (b + 0) from rfl]
  refine eE_iconst (v := -1) yl140_69 (by decide +kernel) ?_
  refine bE_put (i := 0) (ci := 13) (f := 16) (ty := .int) yl140_70 (by decide +kernel) rfl hx (by decide +kernel) (Or.inr ⟨rfl, by decide +kernel⟩) (by decide +kernel) rfl ?_
  exact kk
set_option maxRecDepth 100000 in
theorem c140_s73 (hB : yB eD pF) (hp0 : xNPc pF) {x0 : xC} {R : List xC} {N : Nat} (g0 : xg lv 0 = some (.ref b)) (hx : x0.1 = 14) (hN : (x0 :: R).length = N) (kk : xR pF (d + 5) kT140 13 5 true none none hh (80, lv, [], (hbl G b ((x0.1, x0.2.1, updV x0.2.2 18 (.ref (b + N))) :: (R ++ [(22, 0, fun _ => .int 0)])), b + (N + 1), u + 0))) : xR pF (d + 5) kT140 13 5 true none none hh (73, lv, [], (hbl G b (x0 :: R), b + N, u)) := by
  refine eE_aload_n yl140_73 (x := b) g0 ?_
  rw [show (.ref b : Value) = .ref (b + 0) from rfl]
  refine eE_iconst (v := 0) yl140_74 (by decide +kernel) ?_
  refine bE_newa (N := N) (j := 2) (m := 0) (dv := .int 0) yl140_75 rfl ⟨by decide +kernel, by decide +kernel, by decide⟩ hN rfl ?_
  refine bE_put (i := 0) (ci := 13) (f := 18) (ty := (.array .byte)) yl140_77 (by decide +kernel) rfl hx (by decide +kernel) (Or.inr ⟨rfl, by decide +kernel⟩) (by decide +kernel) rfl ?_
  exact kk
set_option maxRecDepth 100000 in
theorem c140_s80 (hB : yB eD pF) (hp0 : xNPc pF) {x0 : xC} {R : List xC} {H : Nat × Nat} (g0 : xg lv 0 = some (.ref b)) (hx : x0.1 = 14) {l1 : Int32} (g1 : xg lv 1 = some (.int l1)) (kk : xR pF (d + 5) kT140 13 5 true none none hh (85, lv, [], (hbl G b ((x0.1, x0.2.1, updV x0.2.2 0 (.int l1)) :: R), H))) : xR pF (d + 5) kT140 13 5 true none none hh (80, lv, [], (hbl G b (x0 :: R), H)) := by
  refine eE_aload_n yl140_80 (x := b) g0 ?_
  rw [show (.ref b : Value) = .ref (b + 0) from rfl]
  refine eE_iload_n yl140_81 g1 ?_
  refine bE_put (i := 0) (ci := 13) (f := 0) (ty := .int) yl140_82 (by decide +kernel) rfl hx (by decide +kernel) (Or.inr ⟨rfl, by decide +kernel⟩) (by decide +kernel) rfl ?_
  exact kk
set_option maxRecDepth 100000 in
theorem c140_s85 (hB : yB eD pF) (hp0 : xNPc pF) {x0 : xC} {R : List xC} {H : Nat × Nat} (g0 : xg lv 0 = some (.ref b)) (hx : x0.1 = 14) {l3 : Nat} (g3 : xg lv 3 = some (.ref l3)) (kk : xR pF (d + 5) kT140 13 5 true none none hh (90, lv, [], (hbl G b ((x0.1, x0.2.1, updV x0.2.2 1 (.ref l3)) :: R), H))) : xR pF (d + 5) kT140 13 5 true none none hh (85, lv, [], (hbl G b (x0 :: R), H)) := by
  refine eE_aload_n yl140_85 (x := b) g0 ?_
  rw [show (.ref b : Value) = .ref (b + 0) from rfl]
  refine eE_aload_n yl140_86 g3 ?_
  refine bE_put (i := 0) (ci := 13) (f := 1) (ty := (.object "AgreedStore$World")) yl140_87 (by decide +kernel) rfl hx (by decide +kernel) (Or.inr ⟨rfl, by decide +kernel⟩) (by decide +kernel) rfl ?_
  exact kk
set_option maxRecDepth 100000 in
theorem c140_s90 (hB : yB eD pF) (hp0 : xNPc pF) {x0 : xC} {R : List xC} {N : Nat} (g0 : xg lv 0 = some (.ref b)) (hx : x0.1 = 14) (hN : (x0 :: R).length = N) {l2 : Int32} (g2 : xg lv 2 = some (.int l2)) (kk : xR pF (d + 5) kT140 13 5 true none none hh (102, lv, [], (hbl G b ((x0.1, x0.2.1, updV x0.2.2 3 (.ref (b + N))) :: (R ++ c68_F (b + N) l2)), b + (N + 3), u + (xCl 9).2.2 + 1800 + 6))) : xR pF (d + 5) kT140 13 5 true none none hh (90, lv, [], (hbl G b (x0 :: R), b + N, u)) := by
  refine eE_aload_n yl140_90 (x := b) g0 ?_
  rw [show (.ref b : Value) = .ref (b + 0) from rfl]
  refine bE_new (N := N) (ci := 9) yl140_91 (by decide +kernel) (by decide +kernel) hN ?_
  refine eE_dup yl140_94 rfl ?_
  refine eE_iload_n yl140_95 g2 ?_
  refine bE_init (as := [.int l2]) (n := 1) (y := 68) (m := 3) (ci := 9) (F := c68_F (b + N) l2) (u' := u + (xCl 9).2.2 + 1800 + 6) yl140_96 (Or.inl (by decide +kernel)) (by decide +kernel) rfl rfl (Nat.le_of_ble_eq_true rfl) (by decide +kernel) hN (c68_ok (d := d + 4) hp0 l2) ?_
  refine bE_put (i := 0) (ci := 13) (f := 3) (ty := (.object "AgreedStore$Log")) yl140_99 (by decide +kernel) rfl hx (by decide +kernel) (Or.inr ⟨rfl, by decide +kernel⟩) (by decide +kernel) rfl ?_
  exact kk
set_option maxRecDepth 100000 in
theorem c140_s102 (hB : yB eD pF) (hp0 : xNPc pF) {x0 : xC} {R : List xC} {N : Nat} (g0 : xg lv 0 = some (.ref b)) (hx : x0.1 = 14) (hN : (x0 :: R).length = N) {l4 : Nat} (g4 : xg lv 4 = some (.ref l4)) (kk : xR pF (d + 5) kT140 13 5 true none none hh (115, lv, [], (hbl G b ((x0.1, x0.2.1, updV x0.2.2 4 (.ref (b + N))) :: (R ++ c84_S (b + N) l4 128)), b + (N + 9), u + (xCl 10).2.2 + 80 + 1616 + 128 + 128 + 128 + 16896 + 134 + 0))) : xR pF (d + 5) kT140 13 5 true none none hh (102, lv, [], (hbl G b (x0 :: R), b + N, u)) := by
  refine eE_aload_n yl140_102 (x := b) g0 ?_
  rw [show (.ref b : Value) = .ref (b + 0) from rfl]
  refine bE_new (N := N) (ci := 10) yl140_103 (by decide +kernel) (by decide +kernel) hN ?_
  refine eE_dup yl140_106 rfl ?_
  refine eE_aload yl140_107 g4 ?_
  refine bE_init (as := [.ref l4]) (n := 1) (y := 84) (m := 9) (ci := 10) (F := c84_S (b + N) l4 128) (u' := u + (xCl 10).2.2 + 80 + 1616 + 128 + 128 + 128 + 16896 + 134 + 0) yl140_109 (Or.inl (by decide +kernel)) (by decide +kernel) rfl rfl (Nat.le_of_ble_eq_true rfl) (by decide +kernel) hN (c84_ok (d := d + 4) hp0) ?_
  refine bE_put (i := 0) (ci := 13) (f := 4) (ty := (.object "AgreedStore$Machine")) yl140_112 (by decide +kernel) rfl hx (by decide +kernel) (Or.inr ⟨rfl, by decide +kernel⟩) (by decide +kernel) rfl ?_
  exact kk
/-- the cells of a new Server at b -/
def c140_F (b eD : Nat) (l1 l2 : Int32) (l3 l4 : Nat) : List xC := (14, (xCl 13).2.2, updV (updV (updV (updV (updV (updV (updV (updV (updV (updV (updV (updV (updV (updV ((ocell 13).2.2) 2 (.ref (b + 1))) 5 (.ref (b + 127))) 6 (.ref (b + 136))) 7 (.ref (b + 144))) 8 (.int (1 : Int32))) 11 (.int (-1 : Int32))) 13 (.int (-1 : Int32))) 14 (.int (-1 : Int32))) 16 (.int (-1 : Int32))) 18 (.ref (b + 145))) 0 (.int l1)) 1 (.ref l3)) 3 (.ref (b + 146))) 4 (.ref (b + 149))) :: ((((((([] ++ c40_F (b + 1)) ++ c55_F (b + 127)) ++ c118_F (b + 136)) ++ [lcell eD]) ++ [(22, 0, fun _ => .int 0)]) ++ c68_F (b + 146) l2) ++ c84_S (b + 149) l4 128)
theorem c40_len (b : Nat) : (c40_F b).length = 126 := by unfold c40_F; rw [List.length_append, pgs_len]; rfl
set_option maxRecDepth 100000 in
theorem c140_ok (hB : yB eD pF) (hp0 : xNPc pF) {l1 l2 : Int32} {l3 l4 : Nat} : xCo pF (d + 6) 140 [.ref b, .int l1, .int l2, .ref l3, .ref l4] (hbl G b [ocell 13], b + 1, u) none (hbl G b (c140_F b eD l1 l2 l3 l4), b + 158, pgu (u + (xCl 6).2.2 + 16 + 16 + 16 + 16 + 16) 30 + (xCl 7).2.2 + 7 + 7 + 7 + 7 + 7 + 7 + 7 + 7 + (xCl 12).2.2 + 32 + 32 + 32 + 32 + 32 + 32 + 32 + (xCl 3).2.2 + 0 + (xCl 9).2.2 + 1800 + 6 + (xCl 10).2.2 + 80 + 1616 + 128 + 128 + 128 + 16896 + 134 + 0) := by
  refine xCo_Ri (k := kT140) (o := 13) (ml := 5) (n := 4) (ret := none) rfl rfl (by decide +kernel) (bytes := cX9_init) rfl (Nat.le_of_ble_eq_true rfl) (hp0 140 (by decide) _ _) ?_
  refine eE_aload_n yl140_0 (x := b) rfl ?_
  refine eE_obj yl140_1 (by decide +kernel) (by decide +kernel) (by decide +kernel) (Nat.le_of_ble_eq_true rfl) ?_
  refine c140_s4 hB hp0 rfl rfl (by simp only [List.length_cons, List.length_append, List.length_nil, c40_len] <;> rfl) ?_
  refine c140_s15 hB hp0 rfl rfl (by simp only [List.length_cons, List.length_append, List.length_nil, c40_len] <;> rfl) ?_
  refine c140_s26 hB hp0 rfl rfl (by simp only [List.length_cons, List.length_append, List.length_nil, c40_len] <;> rfl) ?_
  refine c140_s37 hB hp0 rfl rfl (by simp only [List.length_cons, List.length_append, List.length_nil, c40_len] <;> rfl) ?_
  refine c140_s48 hB hp0 rfl rfl ?_
  refine c140_s53 hB hp0 rfl rfl ?_
  refine c140_s58 hB hp0 rfl rfl ?_
  refine c140_s63 hB hp0 rfl rfl ?_
  refine c140_s68 hB hp0 rfl rfl ?_
  refine c140_s73 hB hp0 rfl rfl (by simp only [List.length_cons, List.length_append, List.length_nil, c40_len] <;> rfl) ?_
  refine c140_s80 hB hp0 rfl rfl (l1 := l1) rfl ?_
  refine c140_s85 hB hp0 rfl rfl (l3 := l3) rfl ?_
  refine c140_s90 hB hp0 rfl rfl (by simp only [List.length_cons, List.length_append, List.length_nil, c40_len] <;> rfl) (l2 := l2) rfl ?_
  refine c140_s102 hB hp0 rfl rfl (by simp only [List.length_cons, List.length_append, List.length_nil, c40_len] <;> rfl) (l4 := l4) rfl ?_
  exact eE_end yl140_115 rfl rfl rfl
end CS1
