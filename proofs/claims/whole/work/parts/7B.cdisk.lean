/-! Disk's constructor (printed by wip/whole/gen_cdisk.py) -/
theorem yl40_0 : xAt kT40 0 (.aload_n 0) 1 := ⟨1, rfl, Or.inr rfl, rfl⟩
theorem yl40_1 : xAt kT40 1 (.invokespecial 3) 4 := ⟨3, rfl, Or.inr rfl, rfl⟩
theorem yl40_4 : xAt kT40 4 (.aload_n 0) 5 := ⟨1, rfl, Or.inr rfl, rfl⟩
theorem yl40_5 : xAt kT40 5 (.bipush 16) 7 := ⟨2, rfl, Or.inr rfl, rfl⟩
theorem yl40_7 : xAt kT40 7 (.anewarray 9) 10 := ⟨3, rfl, Or.inr rfl, rfl⟩
theorem yl40_10 : xAt kT40 10 (.putfield 11) 13 := ⟨3, rfl, Or.inr rfl, rfl⟩
theorem yl40_13 : xAt kT40 13 (.aload_n 0) 14 := ⟨1, rfl, Or.inr rfl, rfl⟩
theorem yl40_14 : xAt kT40 14 (.bipush 16) 16 := ⟨2, rfl, Or.inr rfl, rfl⟩
theorem yl40_16 : xAt kT40 16 (.anewarray 9) 19 := ⟨3, rfl, Or.inr rfl, rfl⟩
theorem yl40_19 : xAt kT40 19 (.putfield 17) 22 := ⟨3, rfl, Or.inr rfl, rfl⟩
theorem yl40_22 : xAt kT40 22 (.aload_n 0) 23 := ⟨1, rfl, Or.inr rfl, rfl⟩
theorem yl40_23 : xAt kT40 23 (.bipush 16) 25 := ⟨2, rfl, Or.inr rfl, rfl⟩
theorem yl40_25 : xAt kT40 25 (.newarray .int) 27 := ⟨2, rfl, Or.inr rfl, rfl⟩
theorem yl40_27 : xAt kT40 27 (.putfield 20) 30 := ⟨3, rfl, Or.inr rfl, rfl⟩
theorem yl40_30 : xAt kT40 30 (.aload_n 0) 31 := ⟨1, rfl, Or.inr rfl, rfl⟩
theorem yl40_31 : xAt kT40 31 (.bipush 16) 33 := ⟨2, rfl, Or.inr rfl, rfl⟩
theorem yl40_33 : xAt kT40 33 (.newarray .int) 35 := ⟨2, rfl, Or.inr rfl, rfl⟩
theorem yl40_35 : xAt kT40 35 (.putfield 24) 38 := ⟨3, rfl, Or.inr rfl, rfl⟩
theorem yl40_38 : xAt kT40 38 (.aload_n 0) 39 := ⟨1, rfl, Or.inr rfl, rfl⟩
theorem yl40_39 : xAt kT40 39 (.bipush 16) 41 := ⟨2, rfl, Or.inr rfl, rfl⟩
theorem yl40_41 : xAt kT40 41 (.newarray .int) 43 := ⟨2, rfl, Or.inr rfl, rfl⟩
theorem yl40_43 : xAt kT40 43 (.putfield 27) 46 := ⟨3, rfl, Or.inr rfl, rfl⟩
theorem yl40_46 : xAt kT40 46 (.aload_n 0) 47 := ⟨1, rfl, Or.inr rfl, rfl⟩
theorem yl40_47 : xAt kT40 47 (.iconst (-1)) 48 := ⟨1, rfl, Or.inr rfl, rfl⟩
theorem yl40_48 : xAt kT40 48 (.putfield 30) 51 := ⟨3, rfl, Or.inr rfl, rfl⟩
theorem yl40_51 : xAt kT40 51 (.aload_n 0) 52 := ⟨1, rfl, Or.inr rfl, rfl⟩
theorem yl40_52 : xAt kT40 52 (.iconst (-1)) 53 := ⟨1, rfl, Or.inr rfl, rfl⟩
theorem yl40_53 : xAt kT40 53 (.putfield 34) 56 := ⟨3, rfl, Or.inr rfl, rfl⟩
theorem yl40_56 : xAt kT40 56 (.iconst 0) 57 := ⟨1, rfl, Or.inr rfl, rfl⟩
theorem yl40_57 : xAt kT40 57 (.istore_n 1) 58 := ⟨1, rfl, Or.inr rfl, rfl⟩
theorem yl40_58 : xAt kT40 58 (.iload_n 1) 59 := ⟨1, rfl, Or.inr rfl, rfl⟩
theorem yl40_59 : xAt kT40 59 (.bipush 16) 61 := ⟨2, rfl, Or.inr rfl, rfl⟩
theorem yl40_61 : xAt kT40 61 (.if_icmp .ge 54) 64 := ⟨3, rfl, Or.inr rfl, rfl⟩
theorem yl40_64 : xAt kT40 64 (.aload_n 0) 65 := ⟨1, rfl, Or.inr rfl, rfl⟩
theorem yl40_65 : xAt kT40 65 (.getfield 11) 68 := ⟨3, rfl, Or.inr rfl, rfl⟩
theorem yl40_68 : xAt kT40 68 (.iload_n 1) 69 := ⟨1, rfl, Or.inr rfl, rfl⟩
theorem yl40_69 : xAt kT40 69 (.new 9) 72 := ⟨3, rfl, Or.inr rfl, rfl⟩
theorem yl40_72 : xAt kT40 72 (.dup) 73 := ⟨1, rfl, Or.inr rfl, rfl⟩
theorem yl40_73 : xAt kT40 73 (.invokespecial 37) 76 := ⟨3, rfl, Or.inr rfl, rfl⟩
theorem yl40_76 : xAt kT40 76 (.aastore) 77 := ⟨1, rfl, Or.inr rfl, rfl⟩
theorem yl40_77 : xAt kT40 77 (.aload_n 0) 78 := ⟨1, rfl, Or.inr rfl, rfl⟩
theorem yl40_78 : xAt kT40 78 (.getfield 17) 81 := ⟨3, rfl, Or.inr rfl, rfl⟩
theorem yl40_81 : xAt kT40 81 (.iload_n 1) 82 := ⟨1, rfl, Or.inr rfl, rfl⟩
theorem yl40_82 : xAt kT40 82 (.iload_n 1) 83 := ⟨1, rfl, Or.inr rfl, rfl⟩
theorem yl40_83 : xAt kT40 83 (.iconst 2) 84 := ⟨1, rfl, Or.inr rfl, rfl⟩
theorem yl40_84 : xAt kT40 84 (.if_icmp .lt 17) 87 := ⟨3, rfl, Or.inr rfl, rfl⟩
theorem yl40_87 : xAt kT40 87 (.iload_n 1) 88 := ⟨1, rfl, Or.inr rfl, rfl⟩
theorem yl40_88 : xAt kT40 88 (.iconst 4) 89 := ⟨1, rfl, Or.inr rfl, rfl⟩
theorem yl40_89 : xAt kT40 89 (.if_icmp .ge 12) 92 := ⟨3, rfl, Or.inr rfl, rfl⟩
theorem yl40_92 : xAt kT40 92 (.aload_n 0) 93 := ⟨1, rfl, Or.inr rfl, rfl⟩
theorem yl40_93 : xAt kT40 93 (.getfield 11) 96 := ⟨3, rfl, Or.inr rfl, rfl⟩
theorem yl40_96 : xAt kT40 96 (.iload_n 1) 97 := ⟨1, rfl, Or.inr rfl, rfl⟩
theorem yl40_97 : xAt kT40 97 (.aaload) 98 := ⟨1, rfl, Or.inr rfl, rfl⟩
theorem yl40_98 : xAt kT40 98 (.goto 10) 101 := ⟨3, rfl, Or.inr rfl, rfl⟩
theorem yl40_101 : xAt kT40 101 (.new 9) 104 := ⟨3, rfl, Or.inr rfl, rfl⟩
theorem yl40_104 : xAt kT40 104 (.dup) 105 := ⟨1, rfl, Or.inr rfl, rfl⟩
theorem yl40_105 : xAt kT40 105 (.invokespecial 37) 108 := ⟨3, rfl, Or.inr rfl, rfl⟩
theorem yl40_108 : xAt kT40 108 (.aastore) 109 := ⟨1, rfl, Or.inr rfl, rfl⟩
theorem yl40_109 : xAt kT40 109 (.iinc 1 1) 112 := ⟨3, rfl, Or.inr rfl, rfl⟩
theorem yl40_112 : xAt kT40 112 (.goto (-54)) 115 := ⟨3, rfl, Or.inr rfl, rfl⟩
theorem yl40_115 : xAt kT40 115 (.return_) 116 := ⟨1, rfl, Or.inr rfl, rfl⟩
section CD3
variable {pF : Nat → List Value → xH → Option (Option Value × xH)} {d : Nat} {G : Nat → xC} {b u : Nat}
def c40_hd (b ka kb : Nat) : List xC := [(7, (xCl 6).2.2, updV (updV (updV (updV (updV (updV (updV ((ocell 6).2.2) 0 (.ref (b + 1))) 1 (.ref (b + 2))) 2 (.ref (b + 3))) 3 (.ref (b + 4))) 4 (.ref (b + 5))) 6 (.int (-1 : Int32))) 9 (.int (-1 : Int32))), (27, 16, pga b ka), (27, 16, pgb b kb), (20, 16, fun _ => (.int 0)), (20, 16, fun _ => (.int 0)), (20, 16, fun _ => (.int 0))]
theorem c40_at {ka kb q p : Nat} (h : q < p) : (c40_hd b ka kb ++ pgs b p)[6 + 4 * q]? = (c108_F (b + (6 + 4 * q)))[0]? := by
  have e : (c40_hd b ka kb).length = 6 := rfl
  rw [List.getElem?_append_right (by rw [e]; exact Nat.le_add_right _ _), e, Nat.add_sub_cancel_left, pgs_at b h]
theorem c40_fin {k p : Nat} {lv : xL} {hh : xH} {H : Nat × Nat} (hk : k < 16) (hp : ckp k < p) (g0 : xg lv 0 = some (.ref b)) (g1 : xg lv 1 = some (.int (Int32.ofNat k)))
    (kk : ∀ lv', xg lv' 0 = some (.ref b) → xg lv' 1 = some (.int (Int32.ofNat (k + 1))) → xR pF (d + 1) kT40 6 2 true none none hh (58, lv', [], (hbl G b (c40_hd b (k + 1) (k + 1) ++ pgs b p), H))) :
    xR pF (d + 1) kT40 6 2 true none none hh (108, lv, [.ref (b + (6 + 4 * ckp k)), .int (Int32.ofNat k), .ref (b + 2)], (hbl G b (c40_hd b (k + 1) k ++ pgs b p), H)) := by
  obtain ⟨n1, n2⟩ := y_ofn (n := k) (by omega)
  refine bE_aastP (i := 2) (v := 6 + 4 * ckp k) (x := (27, 16, pgb b k)) yl40_108 rfl rfl (c40_at hp) rfl (by rw [n1]; exact fun z => z.elim n2 (fun z => by have : (16 : Nat) ≤ k := z; omega)) ?_
  rw [n1, pgb_s]
  refine eE_iinc (v := Int32.ofNat (k + 1)) yl40_109 g1 (by rw [← y_add]; rfl) (by decide) rfl ?_
  refine eE_goto (t := 58) yl40_112 (by decide) ?_
  exact kk _ (xs1_keep.2 0 _ (by decide) (fun _ => rfl) g0) xs1_keep.1
theorem c40_loop (hp0 : xNPc pF) : ∀ m k lv, k + m = 16 → xg lv 0 = some (.ref b) → xg lv 1 = some (.int (Int32.ofNat k)) →
    xR pF (d + 1) kT40 6 2 true none none (hbl G b (c40_hd b 16 16 ++ pgs b 30), b + 126, pgu u 30) (58, lv, [], (hbl G b (c40_hd b k k ++ pgs b (cpg k)), b + (6 + 4 * cpg k), pgu u (cpg k))) := by
  intro m
  induction m with
  | zero =>
    intro k lv hk g0 g1
    obtain rfl : k = 16 := by omega
    refine eE_iload_n yl40_58 g1 ?_
    refine eE_bipush (v := 16) yl40_59 (by decide +kernel) ?_
    refine eE_icmp (t := 115) yl40_61 (by decide) (fun _ => ?_) (fun q => absurd (by decide +kernel) q)
    exact eE_end yl40_115 rfl rfl rfl
  | succ m ih =>
    intro k lv hk g0 g1
    obtain ⟨n1, n2⟩ := y_ofn (n := k) (by omega)
    refine eE_iload_n yl40_58 g1 ?_
    refine eE_bipush (v := 16) yl40_59 (by decide +kernel) ?_
    refine eE_icmp (t := 115) yl40_61 (by decide) (fun q => ?_) (fun _ => ?_)
    · have := (y_ge (x := k) (y := 16) (by omega) (by omega)).mp q
      omega
    refine eE_aload_n yl40_64 g0 ?_
    rw [show (.ref b : Value) = .ref (b + 0) from rfl]
    refine bE_get (i := 0) (ci := 6) (f := 0) (v := .ref (b + 1)) yl40_65 (by decide +kernel) rfl rfl rfl ?_
    refine eE_iload_n yl40_68 g1 ?_
    refine b_page (p := cpg k) hp0 rfl yl40_69 yl40_72 yl40_73 (Nat.le_of_ble_eq_true rfl) ?_
    refine bE_aastP (i := 1) (v := 6 + 4 * cpg k) (x := (27, 16, pga b k)) yl40_76 rfl rfl (c40_at (Nat.lt_succ_self _)) rfl (by rw [n1]; exact fun z => z.elim n2 (fun z => by have : (16 : Nat) ≤ k := z; omega)) ?_
    rw [n1, pga_s]
    refine eE_aload_n yl40_77 g0 ?_
    rw [show (.ref b : Value) = .ref (b + 0) from rfl]
    refine bE_get (i := 0) (ci := 6) (f := 1) (v := .ref (b + 2)) yl40_78 (by decide +kernel) rfl rfl rfl ?_
    refine eE_iload_n yl40_81 g1 ?_
    refine eE_iload_n yl40_82 g1 ?_
    refine eE_iconst (v := 2) yl40_83 (by decide) ?_
    have two : (k < 2 ∨ 4 ≤ k) → xR pF (d + 1) kT40 6 2 true none none (hbl G b (c40_hd b 16 16 ++ pgs b 30), b + 126, pgu u 30) (101, lv, [.int (Int32.ofNat k), .ref (b + 2)], (hbl G b (c40_hd b (k + 1) k ++ pgs b (cpg k + 1)), b + (6 + 4 * (cpg k + 1)), pgu u (cpg k + 1))) := by
      intro hc
      obtain ⟨e1, e2⟩ := cpg_s hc
      refine b_page (p := cpg k + 1) hp0 rfl yl40_101 yl40_104 yl40_105 (Nat.le_of_ble_eq_true rfl) ?_
      rw [← e2]
      refine c40_fin (by omega) (by omega) g0 g1 (fun lv' k0 k1 => ?_)
      have := ih (k + 1) lv' (by omega) k0 k1
      rw [e1] at this
      rw [e2]
      exact this
    refine eE_icmp (t := 101) yl40_84 (by decide) (fun q => two (Or.inl ((y_lt (x := k) (y := 2) (by omega) (by omega)).mp (of_decide_eq_true q)))) (fun q => ?_)
    have h2 : 2 ≤ k := by
      have : ¬ k < 2 := fun z => q (decide_eq_true ((y_lt (x := k) (y := 2) (by omega) (by omega)).mpr z))
      omega
    refine eE_iload_n yl40_87 g1 ?_
    refine eE_iconst (v := 4) yl40_88 (by decide) ?_
    refine eE_icmp (t := 101) yl40_89 (by decide) (fun q => two (Or.inr ((y_ge (x := k) (y := 4) (by omega) (by omega)).mp q))) (fun q => ?_)
    have h4 : k < 4 := by
      have : ¬ 4 ≤ k := fun z => q ((y_ge (x := k) (y := 4) (by omega) (by omega)).mpr z)
      omega
    obtain ⟨e1, e2⟩ := cpg_t ⟨h2, h4⟩
    refine eE_aload_n yl40_92 g0 ?_
    rw [show (.ref b : Value) = .ref (b + 0) from rfl]
    refine bE_get (i := 0) (ci := 6) (f := 0) (v := .ref (b + 1)) yl40_93 (by decide +kernel) rfl rfl rfl ?_
    refine eE_iload_n yl40_96 g1 ?_
    refine bE_aald (i := 1) (x := (27, 16, pga b (k + 1))) (v := .ref (b + (6 + 4 * cpg k))) yl40_97 rfl rfl (by rw [n1]; exact fun z => z.elim n2 (fun z => by have : (16 : Nat) ≤ k := z; omega)) (by rw [n1]; exact if_pos (Nat.lt_succ_self k)) ?_
    refine eE_goto (t := 108) yl40_98 (by decide) ?_
    rw [← e2]
    refine c40_fin (by omega) (by omega) g0 g1 (fun lv' k0 k1 => ?_)
    have := ih (k + 1) lv' (by omega) k0 k1
    rw [e1] at this
    rw [e2]
    exact this
/-- the cells of a new Disk at b -/
def c40_F (b : Nat) : List xC := c40_hd b 16 16 ++ pgs b 30
set_option maxRecDepth 100000 in
theorem c40_ok (hp0 : xNPc pF) : xCo pF (d + 2) 40 [.ref b] (hbl G b [ocell 6], b + 1, u) none (hbl G b (c40_F b), b + 126, pgu (u + 16 + 16 + 16 + 16 + 16) 30) := by
  refine xCo_Ri (k := kT40) (o := 6) (ml := 2) (n := 0) (ret := none) rfl rfl (by decide +kernel) (bytes := cX2_init) rfl (Nat.le_of_ble_eq_true rfl) (hp0 40 (by decide) _ _) ?_
  refine eE_aload_n yl40_0 (x := b) rfl ?_
  refine eE_obj yl40_1 (by decide +kernel) (by decide +kernel) (by decide +kernel) (Nat.le_of_ble_eq_true rfl) ?_
  refine eE_aload_n yl40_4 (x := b) rfl ?_
  rw [show (.ref b : Value) = .ref (b + 0) from rfl]
  refine eE_bipush (v := 16) yl40_5 (by decide +kernel) ?_
  refine bE_anew (N := 1) (j := 7) (m := 16) yl40_7 (by decide +kernel) (by decide) ⟨by decide +kernel, by decide +kernel, by decide⟩ rfl ?_
  refine bE_put (i := 0) (ci := 6) (f := 0) (ty := (.array (.object "AgreedStore$Page"))) yl40_10 (by decide +kernel) rfl rfl (by decide +kernel) (Or.inr ⟨rfl, by decide +kernel⟩) (by decide +kernel) rfl ?_
  refine eE_aload_n yl40_13 (x := b) rfl ?_
  rw [show (.ref b : Value) = .ref (b + 0) from rfl]
  refine eE_bipush (v := 16) yl40_14 (by decide +kernel) ?_
  refine bE_anew (N := 2) (j := 7) (m := 16) yl40_16 (by decide +kernel) (by decide) ⟨by decide +kernel, by decide +kernel, by decide⟩ rfl ?_
  refine bE_put (i := 0) (ci := 6) (f := 1) (ty := (.array (.object "AgreedStore$Page"))) yl40_19 (by decide +kernel) rfl rfl (by decide +kernel) (Or.inr ⟨rfl, by decide +kernel⟩) (by decide +kernel) rfl ?_
  refine eE_aload_n yl40_22 (x := b) rfl ?_
  rw [show (.ref b : Value) = .ref (b + 0) from rfl]
  refine eE_bipush (v := 16) yl40_23 (by decide +kernel) ?_
  refine bE_newa (N := 3) (j := 0) (m := 16) (dv := (.int 0)) yl40_25 rfl ⟨by decide +kernel, by decide +kernel, by decide⟩ rfl rfl ?_
  refine bE_put (i := 0) (ci := 6) (f := 2) (ty := (.array .int)) yl40_27 (by decide +kernel) rfl rfl (by decide +kernel) (Or.inr ⟨rfl, by decide +kernel⟩) (by decide +kernel) rfl ?_
  refine eE_aload_n yl40_30 (x := b) rfl ?_
  rw [show (.ref b : Value) = .ref (b + 0) from rfl]
  refine eE_bipush (v := 16) yl40_31 (by decide +kernel) ?_
  refine bE_newa (N := 4) (j := 0) (m := 16) (dv := (.int 0)) yl40_33 rfl ⟨by decide +kernel, by decide +kernel, by decide⟩ rfl rfl ?_
  refine bE_put (i := 0) (ci := 6) (f := 3) (ty := (.array .int)) yl40_35 (by decide +kernel) rfl rfl (by decide +kernel) (Or.inr ⟨rfl, by decide +kernel⟩) (by decide +kernel) rfl ?_
  refine eE_aload_n yl40_38 (x := b) rfl ?_
  rw [show (.ref b : Value) = .ref (b + 0) from rfl]
  refine eE_bipush (v := 16) yl40_39 (by decide +kernel) ?_
  refine bE_newa (N := 5) (j := 0) (m := 16) (dv := (.int 0)) yl40_41 rfl ⟨by decide +kernel, by decide +kernel, by decide⟩ rfl rfl ?_
  refine bE_put (i := 0) (ci := 6) (f := 4) (ty := (.array .int)) yl40_43 (by decide +kernel) rfl rfl (by decide +kernel) (Or.inr ⟨rfl, by decide +kernel⟩) (by decide +kernel) rfl ?_
  refine eE_aload_n yl40_46 (x := b) rfl ?_
  rw [show (.ref b : Value) = .ref (b + 0) from rfl]
  refine eE_iconst (v := -1) yl40_47 (by decide +kernel) ?_
  refine bE_put (i := 0) (ci := 6) (f := 6) (ty := .int) yl40_48 (by decide +kernel) rfl rfl (by decide +kernel) (Or.inr ⟨rfl, by decide +kernel⟩) (by decide +kernel) rfl ?_
  refine eE_aload_n yl40_51 (x := b) rfl ?_
  rw [show (.ref b : Value) = .ref (b + 0) from rfl]
  refine eE_iconst (v := -1) yl40_52 (by decide +kernel) ?_
  refine bE_put (i := 0) (ci := 6) (f := 9) (ty := .int) yl40_53 (by decide +kernel) rfl rfl (by decide +kernel) (Or.inr ⟨rfl, by decide +kernel⟩) (by decide +kernel) rfl ?_
  refine eE_iconst (v := 0) yl40_56 (by decide) ?_
  refine eE_stI (j := 1) yl40_57 (Or.inr ⟨1, rfl, rfl⟩) (by decide) (fun lv1 q2 k2 => ?_)
  exact c40_loop hp0 16 0 lv1 rfl (k2 0 _ (by decide) (fun _ => rfl) rfl) q2
end CD3
