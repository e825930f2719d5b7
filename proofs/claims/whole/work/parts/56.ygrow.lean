/-! Arrays.copyOf of Objects, grow from nothing, ArrayList's constructor: by their walks -/
section YW
variable {l : Launch} {G0 : Heap} {Y : State → Prop} {D : va_G} {dA : Nat → ClassId} {base d eD mi : Nat} {pF : Nat → List Value → xH → Option (Option Value × xH)}
theorem y_dec {cc : ByteArray} {k : xK} (hk : xKok cc k) {pc len : Nat} {i : Instr} (h : k.lookup pc = some (i, len)) : decode cc pc = .ok (i, len) := hk (pc, (i, len)) (x_look h)
/-- the heap behind a copy -/
def yhC (h : xH) (b : Nat) (n : Int32) : xH := (xset h.1 h.2.1 (24, n.toNatClampNeg, va_cpy (h.1 b).2.2 (fun _ => .null) 0 0 (h.1 b).2.1), h.2.1 + 1, h.2.2 + n.toNatClampNeg)
def ygC (h : xH) (b : Nat) (n : Int32) : Prop := (h.1 b).1 = 24 ∧ ¬ n < 0 ∧ n.toNatClampNeg ≤ 1000000 ∧ 0 < n.toNatClampNeg ∧ (h.1 b).2.1 ≤ n.toNatClampNeg ∧ b < h.2.1 ∧ (List.range (h.1 b).2.1).all (fun i => xlet h ((h.1 b).2.2 i)) = true ∧ 0 < (h.1 b).2.1
theorem xlet_set {h : xH} {a : Nat} {x : xC} {n : Nat × Nat} {v : Value} (ha : (h.1 a).1 ≠ 9) (hv : xlet h v = true) : xlet (xset h.1 a x, n) v = true := by
  cases v with
  | ref y =>
    have hy : (h.1 y).1 = 9 := by simpa [xlet] using hv
    have : y ≠ a := fun e => ha (e ▸ hy)
    simp [xlet, xset, this, hy]
  | null => rfl
  | int x => cases hv
  | long x => cases hv
  | float x => cases hv
  | double x => cases hv
  | retAddr x => cases hv
theorem y_ofn {n : Nat} (h : n ≤ 1000000) : (Int32.ofNat n).toNatClampNeg = n ∧ ¬ Int32.ofNat n < 0 := by
  have h1 : (Int32.ofNat n).toInt = n := by
    rw [Int32.toInt_ofNat']
    have : ((n : Int)).bmod (2 ^ 32) = n := by
      rw [Int.bmod_def]
      omega
    exact this
  refine ⟨?_, fun z => ?_⟩
  · show (Int32.ofNat n).toInt.toNat = n
    rw [h1]; rfl
  · have := Int32.lt_iff_toInt_lt.mp z
    rw [h1] at this
    have h0 : (0 : Int32).toInt = 0 := rfl
    omega
theorem y_cmin {x y : Int32} (hx : ¬ x < 0) (hy : ¬ y < 0) (h : x.toNatClampNeg ≤ y.toNatClampNeg) : cmin x y = x := by
  unfold cmin
  rw [if_neg]
  intro z
  have z1 := Int32.lt_iff_toInt_lt.mp z
  have e1 := x_ge0 hx
  have e2 := x_ge0 hy
  omega
theorem xRp.fresh {h : xH} {H : Heap} (hR : xRp G0 D dA base h H) : (h.1 h.2.1).1 = 0 := by
  by_cases q : (h.1 h.2.1).1 = 0
  · exact q
  · exfalso
    have hl : h.2.1 < H.size := by
      rcases hR.2.1 _ q with ⟨-, -, -, cell, h4, -⟩ | ⟨-, -, -, h4, -⟩ | ⟨-, scr, h4, -⟩
      · exact (Array.getElem?_eq_some_iff.mp h4).1
      · exact (Array.getElem?_eq_some_iff.mp h4).1
      · exact (Array.getElem?_eq_some_iff.mp h4).1
    rw [hR.1] at hl
    omega
theorem y_391 (hY : ∀ U, Y U → yY G0 base eD mi U) (hpF : ∀ d y as h r h', 4 ≤ d → pF y as h = some (r, h') → xMet l G0 Y D dA base (d + 1) y as h r h') {b : Nat} {n : Int32} {h : xH} (hg : ygC h b n) : xMet l G0 Y D dA base (d + 1) 391 [.ref b, .int n, .ref mi] h (some (.ref h.2.1)) (yhC h b n) := by
  obtain ⟨g1, g2, g3, g4, g5, g6, g7, g8⟩ := hg
  refine x_metW yxm_391 (by decide +kernel) (Nat.le_of_ble_eq_true rfl) (by show h.2.1 ≤ h.2.1 + 1; omega) (by show h.2.2 ≤ h.2.2 + _; omega) ?_
  intro p e R s m below meth c ls H hx hb hml hown hts hK hlk hnm hret hbase hF1 hF2 hC1 hC2 hl hR
  have hown : s.vm.findClass (xOwn 18) = some m.cls := by rw [show xOwn 18 = (xMn 391).cls from by decide +kernel]; exact hown
  have hows : s.vm.findClass "java/util/Arrays" = some m.cls := by rw [show "java/util/Arrays" = xOwn 18 from by decide +kernel]; exact hown
  have hyy := hY s hK.y
  have hfr := hR.fresh
  refine y_p hx hb hown hts hK hR kO391 (i := .aload_n 2) (len := 1) rfl (Or.inr rfl) hl rfl (fun ls1 hl1 => ?_)
  refine y_ldcM hx hb hows hts hyy (y_dec kO391 rfl) ?_
  refine x_rest (pF := pF) (t0 := h.2.1) (u0 := h.2.2) (o := 18) (ini := false) (rr := some (.ref h.2.1)) (h' := yhC h b n) (f := (3, _, [.ref mi, .ref mi], h)) hx hb hml hown hts hK (fun z => absurd z (by decide)) hlk hret hF1 hF2 hpF kO391 hC1 hC2 rfl rfl ?_ hbase (Nat.le_refl _) (Nat.le_refl _) hl1 hR (fun q hq => absurd hq List.not_mem_nil)
  have hne : b ≠ h.2.1 := by omega
  refine yE_acmpN yl391_3 (by decide) ?_
  refine eE_iload_n yl391_6 (x := n) rfl ?_
  obtain ⟨h1, hh1⟩ : ∃ h1 : xH, h1 = (xset h.1 h.2.1 (24, n.toNatClampNeg, fun _ => Value.null), h.2.1 + 1, h.2.2 + n.toNatClampNeg) := ⟨_, rfl⟩
  refine yE_anew (h' := h1) yl391_7 (j := 4) (by decide +kernel) ⟨by omega, by omega⟩ ⟨g2, g3⟩ hh1 ?_
  refine eE_goto (t := 24) yl391_10 (by decide) ?_
  refine eE_stA (j := 3) yl391_24 (Or.inr ⟨3, rfl, rfl⟩) (by decide) (fun lv1 q3 k3 => ?_)
  have q0 : xg lv1 0 = some (.ref b) := k3 0 _ (by decide) (fun _ => rfl) rfl
  have q1 : xg lv1 1 = some (.int n) := k3 1 _ (by decide) (fun _ => rfl) rfl
  refine eE_aload_n yl391_25 q0 ?_
  refine eE_iconst (v := 0) yl391_26 (by decide) ?_
  refine eE_aload_n yl391_27 q3 ?_
  refine eE_iconst (v := 0) yl391_28 (by decide) ?_
  refine eE_aload_n yl391_29 q0 ?_
  have hb0 : h1.1 b = h.1 b := by rw [hh1]; simp only [xset, if_neg hne]
  have ha0 : h1.1 h.2.1 = (24, n.toNatClampNeg, fun _ => Value.null) := by rw [hh1]; simp only [xset, if_true]
  refine eE_alen yl391_30 (by rw [hb0]; omega) ?_
  refine eE_iload_n yl391_31 q1 ?_
  refine eE_min yl391_32 ymr_18_304 (Nat.le_of_ble_eq_true rfl) ?_
  have hL : (Int32.ofNat (h.1 b).2.1).toNatClampNeg = (h.1 b).2.1 ∧ ¬ Int32.ofNat (h.1 b).2.1 < 0 := y_ofn (by omega)
  have hmn : cmin (Int32.ofNat (h.1 b).2.1) n = Int32.ofNat (h.1 b).2.1 := y_cmin hL.2 g2 (by omega)
  rw [hb0, hmn]
  have z0 : ¬ (0 : Int32) < 0 := by decide
  have z1 : (0 : Int32).toNatClampNeg = 0 := rfl
  refine yE_cpyq (h' := yhC h b n) yl391_35 (by decide +kernel) (by decide +kernel) ⟨by rw [ha0], by rw [ha0]; exact g4, by rw [hb0]; exact g1, by rw [hb0]; exact g8, z0, z0, hL.2, by rw [hb0, z1, hL.1]; omega, by rw [ha0, z1, hL.1]; show 0 + _ ≤ n.toNatClampNeg; omega, Nat.le_of_ble_eq_true rfl, ?_⟩ ?_ ?_
  · rw [hL.1]
    refine List.all_eq_true.mpr fun i hi => ?_
    have := List.all_eq_true.mp g7 i hi
    rw [hb0, z1, Nat.zero_add, hh1]
    exact xlet_set (by rw [hfr]; decide) this
  · rw [ha0, hb0, z1, hL.1, hh1]
    unfold yhC
    refine Prod.ext (funext fun q => ?_) rfl
    simp only [xset]
    split <;> rfl
  refine eE_aload_n yl391_38 q3 ?_
  exact eE_end yl391_39 rfl rfl rfl
theorem y_389 (hY : ∀ U, Y U → yY G0 base eD mi U) (hpF : ∀ d y as h r h', 4 ≤ d → pF y as h = some (r, h') → xMet l G0 Y D dA base (d + 1) y as h r h') (hd4 : 4 ≤ d) {b : Nat} {n : Int32} {h : xH} (hg : ygC h b n) : xMet l G0 Y D dA base (d + 1) 389 [.ref b, .int n] h (some (.ref h.2.1)) (yhC h b n) := by
  obtain ⟨d', rfl⟩ : ∃ d', d = d' + 1 := ⟨d - 1, by omega⟩
  refine x_metW yxm_389 (by decide +kernel) (Nat.le_of_ble_eq_true rfl) (by show h.2.1 ≤ h.2.1 + 1; omega) (by show h.2.2 ≤ h.2.2 + _; omega) ?_
  intro p e R s m below meth c ls H hx hb hml hown hts hK hlk hnm hret hbase hF1 hF2 hC1 hC2 hl hR
  have hown : s.vm.findClass (xOwn 18) = some m.cls := by rw [show xOwn 18 = (xMn 389).cls from by decide +kernel]; exact hown
  have hows : s.vm.findClass "java/util/Arrays" = some m.cls := by rw [show "java/util/Arrays" = xOwn 18 from by decide +kernel]; exact hown
  have hyy := hY s hK.y
  refine y_p hx hb hown hts hK hR kO389 (i := .aload_n 0) (len := 1) rfl (Or.inr rfl) hl rfl (fun ls1 hl1 => ?_)
  refine y_p hx hb hown hts hK hR kO389 (i := .iload_n 1) (len := 1) rfl (Or.inr rfl) hl1 rfl (fun ls2 hl2 => ?_)
  refine y_p hx hb hown hts hK hR kO389 (i := .aload_n 0) (len := 1) rfl (Or.inr rfl) hl2 rfl (fun ls3 hl3 => ?_)
  refine y_getC hx hb hml hows hts hK hyy hR (by omega) (by omega) hl3 hg.1 hg.2.2.2.2.2.2.2 (Nat.le_of_ble_eq_true rfl) (y_dec kO389 rfl) ?_
  refine x_stat (d := d' + 1) (t0 := h.2.1) (u0 := h.2.2) (o := 18) (idx := 300) (y := 391) (cF := xone 391 [.ref b, .int n, .ref mi] h (some (.ref h.2.1), yhC h b n)) (pc' := 9) (lv := lv_args 0 [.ref b, .int n]) (lv' := lv_args 0 [.ref b, .int n]) (st' := [.ref h.2.1]) (h' := yhC h b n) hx hb hml hown hts hK hR hbase (by omega) (by omega)
    (xone_ok (P := fun (y : Nat) (as : List Value) (h : xH) (r : Option Value) (h' : xH) => xMet l G0 Y D dA base (d' + 1) y as h r h') (y_391 hY hpF hg)) (Nat.le_refl _) (Nat.le_refl _) (fun q hq => absurd hq List.not_mem_nil) ymr_18_300 (y_dec kO389 rfl) hl3 ?_ hC1 hC2 (fun _ H' locs' hR' hL' => ?_)
  · have hn : xnargs 391 = 3 := yna_391
    simp only [xstat, hn, yws_391, xcall1]
    rw [if_pos ⟨Nat.le_of_ble_eq_true rfl, trivial⟩, if_pos (Nat.le_of_ble_eq_true rfl)]
    show (match xone 391 [.ref b, .int n, .ref mi] h (some (.ref h.2.1), yhC h b n) 391 [.ref b, .int n, .ref mi] h with
      | some (r, h') => some (6 + 3, _, r.toList ++ [], h')
      | none => none) = _
    rw [xone_at]
    rfl
  exact y_aret hx hb hret hlk hR' hL' (y_dec kO389 rfl) rfl rfl
/-- a list's first places -/
def yhG (h : xH) (a : Nat) : xH := (xset (xset h.1 h.2.1 (24, 10, fun _ => .null)) a (4, (h.1 a).2.1, updV (h.1 a).2.2 1 (.ref h.2.1)), h.2.1 + 1, h.2.2 + 10)
def y7_l (a : Nat) : xL := xs1 2 (.int 0) (lv_args 0 [.ref a, .int 1])
theorem y_7 (hY : ∀ U, Y U → yY G0 base eD mi U) (hpF : ∀ d y as h r h', 4 ≤ d → pF y as h = some (r, h') → xMet l G0 Y D dA base (d + 1) y as h r h') {a : Nat} {h : xH} (ha : (h.1 a).1 = 4) (he : (h.1 a).2.2 1 = .ref eD) (h0 : (h.1 eD).1 = 24 ∧ (h.1 eD).2.1 = 0) (hlt : a < h.2.1) : xMet l G0 Y D dA base (d + 1) 7 [.ref a, .int 1] h (some (.ref h.2.1)) (yhG h a) := by
  refine x_metW yxm_7 (by decide +kernel) (Nat.le_of_ble_eq_true rfl) (by show h.2.1 ≤ h.2.1 + 1; omega) (by show h.2.2 ≤ h.2.2 + _; omega) ?_
  intro p e R s m below meth c ls H hx hb hml hown hts hK hlk hnm hret hbase hF1 hF2 hC1 hC2 hl hR
  have hown : s.vm.findClass (xOwn 3) = some m.cls := by rw [show xOwn 3 = (xMn 7).cls from by decide +kernel]; exact hown
  have hows : s.vm.findClass "java/util/ArrayList" = some m.cls := by rw [show "java/util/ArrayList" = xOwn 3 from by decide +kernel]; exact hown
  have hyy := hY s hK.y
  have hne : a ≠ h.2.1 := by omega
  refine y_p hx hb hown hts hK hR kO7 (i := .aload_n 0) (len := 1) rfl (Or.inr rfl) hl rfl (fun ls1 hl1 => ?_)
  refine y_p (pc' := 4) (lv' := lv_args 0 [.ref a, .int 1]) (st' := [.ref eD]) hx hb hown hts hK hR kO7 (i := .getfield 9) (len := 3) rfl (Or.inr rfl) hl1 (by simp [xpure, xgetf, yrf_3_9, ha, he]) (fun ls2 hl2 => ?_)
  refine y_p (pc' := 5) (lv' := lv_args 0 [.ref a, .int 1]) (st' := [.int 0]) hx hb hown hts hK hR kO7 (i := .arraylength) (len := 1) rfl (Or.inr rfl) hl2 (by simp [xpure, h0.1, h0.2]) (fun ls3 hl3 => ?_)
  refine y_p hx hb hown hts hK hR kO7 (i := .istore_n 2) (len := 1) rfl (Or.inr rfl) hl3 rfl (fun ls4 hl4 => ?_)
  refine y_p hx hb hown hts hK hR kO7 (i := .iload_n 2) (len := 1) rfl (Or.inr rfl) hl4 rfl (fun ls5 hl5 => ?_)
  refine y_p (pc' := 10) (lv' := y7_l a) (st' := []) hx hb hown hts hK hR kO7 (i := .ifCond .gt 13) (len := 3) rfl (Or.inr rfl) hl5 rfl (fun ls6 hl6 => ?_)
  refine y_p hx hb hown hts hK hR kO7 (i := .aload_n 0) (len := 1) rfl (Or.inr rfl) hl6 rfl (fun ls7 hl7 => ?_)
  refine y_p (pc' := 14) (lv' := y7_l a) (st' := [.ref eD]) hx hb hown hts hK hR kO7 (i := .getfield 9) (len := 3) rfl (Or.inr rfl) hl7 (by simp [xpure, xgetf, yrf_3_9, ha, he]) (fun ls8 hl8 => ?_)
  refine y_gets hx hb hows hts hyy hR (y_dec kO7 rfl) ?_
  refine x_rest (pF := pF) (t0 := h.2.1) (u0 := h.2.2) (o := 3) (ini := false) (rr := some (.ref h.2.1)) (h' := yhG h a) (f := (17, _, [.ref eD, .ref eD], h)) hx hb hml hown hts hK (fun z => absurd z (by decide)) hlk hret hF1 hF2 hpF kO7 hC1 hC2 rfl rfl ?_ hbase (Nat.le_refl _) (Nat.le_refl _) hl8 hR (fun q hq => absurd hq List.not_mem_nil)
  refine yE_acmpT (t := 45) yl7_17 (by decide) ?_
  refine eE_aload_n yl7_45 (x := a) rfl ?_
  refine eE_bipush (v := 10) yl7_46 (by decide) ?_
  refine eE_iload_n yl7_48 (x := 1) rfl ?_
  refine eE_max yl7_49 ymr_3_79 (Nat.le_of_ble_eq_true rfl) ?_
  rw [show cmax 10 1 = 10 from by decide]
  obtain ⟨h1, hh1⟩ : ∃ h1 : xH, h1 = (xset h.1 h.2.1 (24, 10, fun _ => Value.null), h.2.1 + 1, h.2.2 + 10) := ⟨_, rfl⟩
  refine yE_anew (h' := h1) yl7_52 (j := 4) (by decide +kernel) ⟨by omega, by omega⟩ ⟨by decide, by decide⟩ hh1 ?_
  refine eE_dup_x1 yl7_55 rfl rfl ?_
  have ha1 : h1.1 a = h.1 a := by rw [hh1]; simp only [xset, if_neg hne]
  refine yE_putE (h' := yhG h a) yl7_56 rfl (by rw [ha1]; exact ha) (by rw [ha1, hh1]; rfl) ?_
  exact eE_end yl7_59 rfl rfl rfl
end YW
