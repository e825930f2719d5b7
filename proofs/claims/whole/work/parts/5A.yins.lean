/-! ArrayList's add at a place, over plain heaps -/
section YM4
variable {pF : Nat → List Value → xH → Option (Option Value × xH)} {d eD : Nat} {h : xH} {b e n cap : Nat} {m : Int32} {A : Nat → Value}
theorem y_insT (hn : b ≠ e) (hlt : n < cap) (hcap : cap ≤ 1000000) {j v : Nat} (hj : j ≤ n) (hA : yLet h b e n A) (hvb : v ≠ b) (hve : v ≠ e) (hv : (h.1 v).1 = 9) {lv : xL} (q0 : xg lv 0 = some (.ref b)) (q1 : xg lv 1 = some (.int (Int32.ofNat j))) (q2 : xg lv 2 = some (.ref v)) (q3 : xg lv 3 = some (.int (Int32.ofNat n))) (q4 : xg lv 4 = some (.ref e)) :
    xR pF d kT1 3 5 false none none (yZ h b e m (n + 1) cap (updV (va_cpy A A j (j + 1) (n - j)) j (.ref v))) (38, lv, [], yZ h b e m n cap A) := by
  obtain ⟨n1, n2⟩ := y_ofn (n := n) (by omega)
  obtain ⟨j1, j2⟩ := y_ofn (n := j) (by omega)
  obtain ⟨s1, s2⟩ := y_ofn (n := j + 1) (by omega)
  obtain ⟨r1, r2⟩ := y_ofn (n := n - j) (by omega)
  refine eE_aload yl1_38 q4 ?_
  refine eE_iload_n yl1_40 q1 ?_
  refine eE_aload yl1_41 q4 ?_
  refine eE_iload_n yl1_43 q1 ?_
  refine eE_iconst (v := 1) yl1_44 (by decide) ?_
  refine eE_iadd yl1_45 ?_
  refine eE_iload_n yl1_46 q3 ?_
  refine eE_iload_n yl1_47 q1 ?_
  refine eE_isub yl1_48 ?_
  rw [y_one, y_add, y_sub hj]
  refine yE_cpyq yl1_49 (by decide +kernel) (by decide +kernel) ⟨by rw [yZ_e hn], by rw [yZ_e hn]; show 0 < cap; omega, by rw [yZ_e hn], by rw [yZ_e hn]; show 0 < cap; omega, j2, s2, r2, by rw [yZ_e hn, j1, r1]; show _ ≤ cap; omega, by rw [yZ_e hn, s1, r1]; show _ ≤ cap; omega, Nat.le_of_ble_eq_true rfl, ?_⟩ rfl ?_
  · rw [r1]
    refine List.all_eq_true.mpr fun i hi => ?_
    have hi := List.mem_range.mp hi
    rw [yZ_e hn, j1]
    exact yLet_x (hA := hA) (by omega)
  rw [yZ_se (A' := va_cpy A A j (j + 1) (n - j)) hn (by rw [yZ_e hn, j1, s1, r1])]
  refine eE_aload yl1_52 q4 ?_
  refine eE_iload_n yl1_54 q1 ?_
  refine eE_aload_n yl1_55 q2 ?_
  refine yE_aast yl1_56 (by rw [yZ_e hn]) (by rw [yZ_o hvb hve]; exact hv) (by rw [yZ_e hn]; show ¬ (_ ∨ cap ≤ _); rw [j1]; exact fun z => z.elim j2 (fun z => by omega)) rfl ?_
  rw [yZ_se (A' := updV (va_cpy A A j (j + 1) (n - j)) j (.ref v)) hn (by rw [yZ_e hn, j1])]
  refine eE_aload_n yl1_57 q0 ?_
  refine eE_iload_n yl1_58 q3 ?_
  refine eE_iconst (v := 1) yl1_59 (by decide) ?_
  refine eE_iadd yl1_60 ?_
  rw [y_one, y_add]
  refine yE_putS yl1_61 rfl (by rw [yZ_b]) rfl ?_
  rw [yZ_sb (m' := m) (n' := n + 1) (by rw [yZ_b]; exact Prod.ext rfl (Prod.ext rfl yV2))]
  exact eE_end yl1_64 rfl rfl rfl
theorem y_12 (hB : yB eD pF) (hcap : n ≤ 1000000) {j : Nat} (hj : j ≤ n) : xCo pF (d + 1) 12 [.ref b, .int (Int32.ofNat j)] (yZ h b e m n cap A) none (yZ h b e m n cap A) := by
  refine xCo_R ykk_12 ymo_12 yni_12 yxm_12 (Nat.le_of_ble_eq_true rfl) (hB.1 _ _ _ (by decide) (by decide) (by decide)) ?_
  obtain ⟨j1, j2⟩ := y_ofn (n := j) (by omega)
  refine eE_iload_n yl12_0 (x := Int32.ofNat j) rfl ?_
  refine eE_aload_n yl12_1 (x := b) rfl ?_
  refine yE_getf yl12_2 yrf_3_48 (by rw [yZ_b]) (v := .int (Int32.ofNat n)) (by rw [yZ_b]; rfl) ?_
  refine eE_icmp (t := 12) yl12_5 (by decide) (fun q => ?_) (fun _ => ?_)
  · exfalso
    have := (y_lt (x := n) (y := j) (by omega) (by omega)).mp (of_decide_eq_true q)
    omega
  refine eE_iload_n yl12_8 (x := Int32.ofNat j) rfl ?_
  refine eE_if (t := 25) yl12_9 (by decide) (fun _ => ?_) (fun q => absurd (decide_eq_true (Int32.not_lt.mp j2)) q)
  exact eE_end yl12_25 rfl rfl rfl
/-- add at a place: there is room; there is none -/
theorem y_ins (hB : yB eD pF) (hd : 4 ≤ d) (hn : b ≠ e) (hcap : cap ≤ 100000) {j v : Nat} (hj : j ≤ n) (hlt : n < cap) (hA : yLet h b e n A) (hvb : v ≠ b) (hve : v ≠ e) (hv : (h.1 v).1 = 9) :
    xCo pF (d + 4) 1 [.ref b, .int (Int32.ofNat j), .ref v] (yZ h b e m n cap A) none (yZ h b e (m + 1) (n + 1) cap (updV (va_cpy A A j (j + 1) (n - j)) j (.ref v))) := by
  refine xCo_R ykk_1 ymo_1 yni_1 yxm_1 (Nat.le_of_ble_eq_true rfl) (hB.1 _ _ _ (by decide) (by decide) (by decide)) ?_
  refine eE_aload_n yl1_0 (x := b) rfl ?_
  refine eE_iload_n yl1_1 (x := Int32.ofNat j) rfl ?_
  refine eE_virt (as := [.int (Int32.ofNat j)]) (r := none) (h' := yZ h b e m n cap A) yl1_2 ymr_3_135 yna_12 rfl rfl (Nat.le_of_ble_eq_true rfl) ywv_12 ?_ (y_12 (d := d + 2) hB (by omega) hj) ?_
  · rw [yZ_b]; exact ⟨ywc_12, Nat.le_of_ble_eq_true rfl, Nat.le_of_ble_eq_true rfl⟩
  refine eE_aload_n yl1_5 (x := b) rfl ?_
  refine y_inc yl1_6 yl1_7 yl1_10 yl1_11 yl1_12 ?_
  refine eE_aload_n yl1_15 (x := b) rfl ?_
  refine yE_getf yl1_16 yrf_3_48 (by rw [yZ_b]) (v := .int (Int32.ofNat n)) (by rw [yZ_b]; rfl) ?_
  refine eE_dup yl1_19 rfl ?_
  refine eE_stI (j := 3) yl1_20 (Or.inr ⟨3, rfl, rfl⟩) (by decide) (fun lv1 q3 k3 => ?_)
  have q0 : xg lv1 0 = some (.ref b) := k3 0 _ (by decide) (fun _ => rfl) rfl
  have q1 : xg lv1 1 = some (.int (Int32.ofNat j)) := k3 1 _ (by decide) (fun _ => rfl) rfl
  have q2 : xg lv1 2 = some (.ref v) := k3 2 _ (by decide) (fun _ => rfl) rfl
  refine eE_aload_n yl1_21 q0 ?_
  refine yE_getf yl1_22 yrf_3_9 (by rw [yZ_b]) (v := .ref e) (by rw [yZ_b]; rfl) ?_
  refine eE_dup yl1_25 rfl ?_
  refine eE_stA (j := 4) yl1_26 (Or.inl rfl) (by decide) (fun lv2 r4 k4 => ?_)
  refine eE_alen yl1_28 (by rw [yZ_e hn]; exact Nat.le_of_ble_eq_true rfl) ?_
  rw [yZ_e hn]
  refine eE_icmp (t := 38) yl1_29 (by decide) (fun _ => ?_) (fun q => ?_)
  · exact y_insT hn hlt (by omega) hj hA hvb hve hv (k4 0 _ (by decide) (fun q => absurd q (by decide)) q0) (k4 1 _ (by decide) (fun q => absurd q (by decide)) q1) (k4 2 _ (by decide) (fun q => absurd q (by decide)) q2) (k4 3 _ (by decide) (fun _ => rfl) q3) r4
  · exfalso
    refine q ?_
    obtain ⟨n1, n2⟩ := y_ofn (n := n) (by omega)
    have : Int32.ofNat n ≠ Int32.ofNat cap := fun z => by
      have e1 := (y_ofn (n := cap) (by omega)).1
      rw [← z, n1] at e1
      omega
    simp [xc2, this]
theorem y_insg (hB : yB eD pF) (hd : 4 ≤ d) (hn : b ≠ e) (hf : yFull eD h b e n cap A) {j v : Nat} (hj : j ≤ n) (hvb : v ≠ b) (hve : v ≠ e) (hvn : v < h.2.1) (hv : (h.1 v).1 = 9) (hA : yLet h b e n A) (hAl : ∀ q, q < n → ∀ w, A q = .ref w → w < h.2.1) :
    xCo pF (d + 4) 1 [.ref b, .int (Int32.ofNat j), .ref v] (yZ h b e m n cap A) none (yZ (yUp (yZ h b e (m + 1) n cap A) (clcap cap)) b h.2.1 (m + 1) (n + 1) (clcap cap) (updV (va_cpy (va_cpy A (fun _ => .null) 0 0 cap) (va_cpy A (fun _ => .null) 0 0 cap) j (j + 1) (n - j)) j (.ref v))) := by
  have hf' := hf
  obtain ⟨rfl, hb, he, hcap, hcs⟩ := hf'
  refine xCo_R ykk_1 ymo_1 yni_1 yxm_1 (Nat.le_of_ble_eq_true rfl) (hB.1 _ _ _ (by decide) (by decide) (by decide)) ?_
  have hcl : n < clcap n ∧ clcap n ≤ 1000000 := by
    unfold clcap
    split
    · omega
    · split <;> omega
  refine eE_aload_n yl1_0 (x := b) rfl ?_
  refine eE_iload_n yl1_1 (x := Int32.ofNat j) rfl ?_
  refine eE_virt (as := [.int (Int32.ofNat j)]) (r := none) (h' := yZ h b e m n n A) yl1_2 ymr_3_135 yna_12 rfl rfl (Nat.le_of_ble_eq_true rfl) ywv_12 ?_ (y_12 (d := d + 2) hB (by omega) hj) ?_
  · rw [yZ_b]; exact ⟨ywc_12, Nat.le_of_ble_eq_true rfl, Nat.le_of_ble_eq_true rfl⟩
  refine eE_aload_n yl1_5 (x := b) rfl ?_
  refine y_inc yl1_6 yl1_7 yl1_10 yl1_11 yl1_12 ?_
  refine eE_aload_n yl1_15 (x := b) rfl ?_
  refine yE_getf yl1_16 yrf_3_48 (by rw [yZ_b]) (v := .int (Int32.ofNat n)) (by rw [yZ_b]; rfl) ?_
  refine eE_dup yl1_19 rfl ?_
  refine eE_stI (j := 3) yl1_20 (Or.inr ⟨3, rfl, rfl⟩) (by decide) (fun lv1 q3 k3 => ?_)
  have q0 : xg lv1 0 = some (.ref b) := k3 0 _ (by decide) (fun _ => rfl) rfl
  have q1 : xg lv1 1 = some (.int (Int32.ofNat j)) := k3 1 _ (by decide) (fun _ => rfl) rfl
  have q2 : xg lv1 2 = some (.ref v) := k3 2 _ (by decide) (fun _ => rfl) rfl
  refine eE_aload_n yl1_21 q0 ?_
  refine yE_getf yl1_22 yrf_3_9 (by rw [yZ_b]) (v := .ref e) (by rw [yZ_b]; rfl) ?_
  refine eE_dup yl1_25 rfl ?_
  refine eE_stA (j := 4) yl1_26 (Or.inl rfl) (by decide) (fun lv2 r4 k4 => ?_)
  have r0 : xg lv2 0 = some (.ref b) := k4 0 _ (by decide) (fun q => absurd q (by decide)) q0
  have r1 : xg lv2 1 = some (.int (Int32.ofNat j)) := k4 1 _ (by decide) (fun q => absurd q (by decide)) q1
  have r2 : xg lv2 2 = some (.ref v) := k4 2 _ (by decide) (fun q => absurd q (by decide)) q2
  have r3 : xg lv2 3 = some (.int (Int32.ofNat n)) := k4 3 _ (by decide) (fun _ => rfl) q3
  refine eE_alen yl1_28 (by rw [yZ_e hn]; exact Nat.le_of_ble_eq_true rfl) ?_
  rw [yZ_e hn]
  refine eE_icmp (t := 38) yl1_29 (by decide) (fun q => by simp [xc2] at q) (fun _ => ?_)
  refine eE_aload_n yl1_32 r0 ?_
  refine eE_virt (as := []) (r := some (.ref h.2.1)) (h' := yZ (yUp (yZ h b e (m + 1) n n A) (clcap n)) b h.2.1 (m + 1) n (clcap n) (va_cpy A (fun _ => .null) 0 0 n)) yl1_33 ymr_3_129 yna_8 rfl rfl (Nat.le_of_ble_eq_true rfl) ywv_8 ?_ (y_grow hB hd hn hf) ?_
  · rw [yZ_b]; exact ⟨ywc_8, Nat.le_of_ble_eq_true rfl, Nat.le_of_ble_eq_true rfl⟩
  refine eE_stA (j := 4) yl1_36 (Or.inl rfl) (by decide) (fun lv3 s4 k5 => ?_)
  have hvn' : v ≠ h.2.1 := by omega
  refine y_insT (h := yUp (yZ h b e (m + 1) n n A) (clcap n)) (by omega) hcl.1 hcl.2 hj ?_ hvb hvn' (by show ((yZ h b e (m + 1) n n A).1 v).1 = 9; rw [yZ_o hvb hve]; exact hv) (k5 0 _ (by decide) (fun q => absurd q (by decide)) r0) (k5 1 _ (by decide) (fun q => absurd q (by decide)) r1) (k5 2 _ (by decide) (fun q => absurd q (by decide)) r2) (k5 3 _ (by decide) (fun _ => rfl) r3) s4
  intro q hq
  obtain ⟨w, w1, w2, w3, w4⟩ := hA q hq
  have hwl := hAl q hq w w1
  refine ⟨w, ?_, w2, Nat.ne_of_lt hwl, ?_⟩
  · unfold va_cpy
    rw [if_pos (by omega)]
    rw [← w1]
    congr 1
    omega
  · show ((yZ h b e (m + 1) n n A).1 w).1 = 9
    rw [yZ_o w2 w3]
    exact w4
end YM4
