/-! ArrayList's members over plain heaps: remove, add -/
section YM2
variable {pF : Nat → List Value → xH → Option (Option Value × xH)} {d eD : Nat} {h : xH} {b e n cap : Nat} {m : Int32} {A : Nat → Value}
/-- the first n places hold letters -/
def yLet (h : xH) (b e n : Nat) (A : Nat → Value) : Prop := ∀ q, q < n → ∃ v, A q = .ref v ∧ v ≠ b ∧ v ≠ e ∧ (h.1 v).1 = 9
theorem yLet_x {hA : yLet h b e n A} {q : Nat} (hq : q < n) {m' : Int32} {n' cap' : Nat} {A' : Nat → Value} : xlet (yZ h b e m' n' cap' A') (A q) = true := by
  obtain ⟨v, h1, h2, h3, h4⟩ := hA q hq
  rw [h1]
  show (((yZ h b e m' n' cap' A').1 v).1 == 9) = true
  rw [yZ_o h2 h3, h4]
  rfl
theorem y_fast (hp : ∀ y as h, y ≠ 389 → y ≠ 7 → y ≠ 9 → pF y as h = none) (hn : b ≠ e) (hle : n + 1 ≤ cap) (hcap : cap ≤ 1000000) {j : Nat} (hj : j ≤ n) (hA : yLet h b e (n + 1) A) : xCo pF (d + 1) 5 [.ref b, .ref e, .int (Int32.ofNat j)] (yZ h b e m (n + 1) cap A) none (yZ h b e (m + 1) n cap (fun q => if q = n then .null else if j ≤ q ∧ q < n then A (q + 1) else A q)) := by
  refine xCo_R ykk_5 ymo_5 yni_5 yxm_5 (Nat.le_of_ble_eq_true rfl) (hp _ _ _ (by decide) (by decide) (by decide)) ?_
  obtain ⟨j1, j2⟩ := y_ofn (n := j) (by omega)
  obtain ⟨n1, n2⟩ := y_ofn (n := n) (by omega)
  refine eE_aload_n yl5_0 (x := b) rfl ?_
  refine y_inc yl5_1 yl5_2 yl5_5 yl5_6 yl5_7 ?_
  refine eE_aload_n yl5_10 (x := b) rfl ?_
  refine yE_getf yl5_11 yrf_3_48 (by rw [yZ_b]) (v := .int (Int32.ofNat (n + 1))) (by rw [yZ_b]; rfl) ?_
  refine eE_iconst (v := 1) yl5_14 (by decide) ?_
  refine eE_isub yl5_15 ?_
  rw [y_one, y_sub (by omega), Nat.add_sub_cancel]
  refine eE_dup yl5_16 rfl ?_
  refine eE_stI (j := 3) yl5_17 (Or.inr ⟨3, rfl, rfl⟩) (by decide) (fun lv1 q3 k3 => ?_)
  have q0 : xg lv1 0 = some (.ref b) := k3 0 _ (by decide) (fun _ => rfl) rfl
  have q1 : xg lv1 1 = some (.ref e) := k3 1 _ (by decide) (fun _ => rfl) rfl
  have q2 : xg lv1 2 = some (.int (Int32.ofNat j)) := k3 2 _ (by decide) (fun _ => rfl) rfl
  -- behind the copy
  have tail : ∀ A', (∀ q, q ≠ n → A' q = if j ≤ q ∧ q < n then A (q + 1) else A q) → xR pF d kT5 3 4 false none none (yZ h b e (m + 1) n cap (fun q => if q = n then .null else if j ≤ q ∧ q < n then A (q + 1) else A q)) (34, lv1, [], yZ h b e (m + 1) (n + 1) cap A') := by
    intro A' hA'
    refine eE_aload_n yl5_34 q1 ?_
    refine eE_aload_n yl5_35 q0 ?_
    refine eE_iload_n yl5_36 q3 ?_
    refine eE_dup_x1 yl5_37 rfl rfl ?_
    refine yE_putS yl5_38 rfl (by rw [yZ_b]) rfl ?_
    rw [yZ_sb (m' := m + 1) (n' := n) (by rw [yZ_b]; exact Prod.ext rfl (Prod.ext rfl yV2))]
    refine eE_null yl5_41 ?_
    refine yE_aastN yl5_42 (by rw [yZ_e hn]) (by rw [yZ_e hn]; show ¬ (_ ∨ cap ≤ _); rw [n1]; exact fun z => z.elim n2 (fun z => by omega)) rfl ?_
    rw [yZ_se (A' := fun q => if q = n then .null else if j ≤ q ∧ q < n then A (q + 1) else A q) hn (by
      rw [yZ_e hn]
      refine Prod.ext rfl (Prod.ext rfl ?_)
      funext q
      show updV A' _ _ q = _
      rw [n1]
      unfold updV
      by_cases qn : q = n
      · simp [qn]
      · simp only [qn, if_false]; exact hA' q qn)]
    exact eE_end yl5_43 rfl rfl rfl
  refine eE_iload_n yl5_18 q2 ?_
  refine eE_icmp (t := 34) yl5_19 (by decide) (fun q => ?_) (fun q => ?_)
  · have hjn : n ≤ j := (y_le (x := n) (y := j) (by omega) (by omega)).mp (of_decide_eq_true q)
    refine tail A (fun q hq => ?_)
    rw [if_neg (by omega)]
  · have hjn : j < n := by
      by_cases z : j < n
      · exact z
      · exact absurd (decide_eq_true ((y_le (x := n) (y := j) (by omega) (by omega)).mpr (by omega))) q
    refine eE_aload_n yl5_22 q1 ?_
    refine eE_iload_n yl5_23 q2 ?_
    refine eE_iconst (v := 1) yl5_24 (by decide) ?_
    refine eE_iadd yl5_25 ?_
    refine eE_aload_n yl5_26 q1 ?_
    refine eE_iload_n yl5_27 q2 ?_
    refine eE_iload_n yl5_28 q3 ?_
    refine eE_iload_n yl5_29 q2 ?_
    refine eE_isub yl5_30 ?_
    rw [y_one, y_add, y_sub (by omega)]
    obtain ⟨s1, s2⟩ := y_ofn (n := j + 1) (by omega)
    obtain ⟨r1, r2⟩ := y_ofn (n := n - j) (by omega)
    refine yE_cpyq yl5_31 (by decide +kernel) (by decide +kernel) ⟨by rw [yZ_e hn], by rw [yZ_e hn]; show 0 < cap; omega, by rw [yZ_e hn], by rw [yZ_e hn]; show 0 < cap; omega, s2, j2, r2, by rw [yZ_e hn, s1, r1]; show _ ≤ cap; omega, by rw [yZ_e hn, j1, r1]; show _ ≤ cap; omega, Nat.le_of_ble_eq_true rfl, ?_⟩ rfl ?_
    · rw [r1]
      refine List.all_eq_true.mpr fun i hi => ?_
      have hi := List.mem_range.mp hi
      rw [yZ_e hn, s1]
      exact yLet_x (hA := hA) (by omega)
    rw [yZ_se (A' := va_cpy A A (j + 1) j (n - j)) hn (by rw [yZ_e hn, s1, j1, r1])]
    refine tail _ (fun q hq => ?_)
    unfold va_cpy
    by_cases z : j ≤ q ∧ q < n
    · rw [if_pos z, if_pos (by omega)]
      congr 1
      omega
    · rw [if_neg z, if_neg (by omega)]
theorem y_rem (hp : ∀ y as h, y ≠ 389 → y ≠ 7 → y ≠ 9 → pF y as h = none) (hn : b ≠ e) (hle : n + 1 ≤ cap) (hcap : cap ≤ 1000000) {j : Int32} (hj0 : ¬ j < 0) (hj : j.toNatClampNeg ≤ n) (hA : yLet h b e (n + 1) A) {v : Nat} (hv : A j.toNatClampNeg = .ref v) :
    xCo pF (d + 3) 13 [.ref b, .int j] (yZ h b e m (n + 1) cap A) (some (.ref v)) (yZ h b e (m + 1) n cap (fun q => if q = n then .null else if j.toNatClampNeg ≤ q ∧ q < n then A (q + 1) else A q)) := by
  refine xCo_R ykk_13 ymo_13 yni_13 yxm_13 (Nat.le_of_ble_eq_true rfl) (hp _ _ _ (by decide) (by decide) (by decide)) ?_
  have hjo : j = Int32.ofNat j.toNatClampNeg := by
    obtain ⟨q1, q2⟩ := y_ofn (n := j.toNatClampNeg) (by omega)
    have e1 := x_ge0 hj0
    have e2 := x_ge0 q2
    rw [q1] at e2
    exact Int32.toInt_inj.mp (e1.trans e2.symm)
  refine eE_iload_n yl13_0 (x := j) rfl ?_
  refine eE_aload_n yl13_1 (x := b) rfl ?_
  refine yE_getf yl13_2 yrf_3_48 (by rw [yZ_b]) (v := .int (Int32.ofNat (n + 1))) (by rw [yZ_b]; rfl) ?_
  have hlt : j < Int32.ofNat (n + 1) := by rw [hjo]; exact (y_lt (by omega) (by omega)).mpr (by omega)
  refine eE_stat (as := [.int j, .int (Int32.ofNat (n + 1))]) (r := some (.int j)) (h' := yZ h b e m (n + 1) cap A) yl13_5 ymr_3_118 yna_403 rfl rfl (Nat.le_of_ble_eq_true rfl) ymm_403 yws_403 (y_chk (d := d) hp hj0 hlt) ?_
  refine eE_pop yl13_8 rfl ?_
  refine eE_aload_n yl13_9 (x := b) rfl ?_
  refine yE_getf yl13_10 yrf_3_9 (by rw [yZ_b]) (v := .ref e) (by rw [yZ_b]; rfl) ?_
  refine eE_stA (j := 2) yl13_13 (Or.inr ⟨2, rfl, rfl⟩) (by decide) (fun lv1 q2 k2 => ?_)
  have q0 : xg lv1 0 = some (.ref b) := k2 0 _ (by decide) (fun _ => rfl) rfl
  have q1 : xg lv1 1 = some (.int j) := k2 1 _ (by decide) (fun _ => rfl) rfl
  refine eE_aload_n yl13_14 q2 ?_
  refine eE_iload_n yl13_15 q1 ?_
  refine yE_aald yl13_16 (by rw [yZ_e hn]) (by rw [yZ_e hn]; show ¬ (j < 0 ∨ cap ≤ _); exact fun z => z.elim hj0 (fun z => by omega)) (v := .ref v) (by rw [yZ_e hn]; exact hv) ?_
  refine eE_stA (j := 3) yl13_17 (Or.inr ⟨3, rfl, rfl⟩) (by decide) (fun lv2 r3 k3 => ?_)
  have r0 : xg lv2 0 = some (.ref b) := k3 0 _ (by decide) (fun _ => rfl) q0
  have r1 : xg lv2 1 = some (.int j) := k3 1 _ (by decide) (fun _ => rfl) q1
  have r2 : xg lv2 2 = some (.ref e) := k3 2 _ (by decide) (fun _ => rfl) q2
  refine eE_aload_n yl13_18 r0 ?_
  refine eE_aload_n yl13_19 r2 ?_
  refine eE_iload_n yl13_20 r1 ?_
  refine eE_virt (as := [.ref e, .int j]) (r := none) (h' := yZ h b e (m + 1) n cap (fun q => if q = n then .null else if j.toNatClampNeg ≤ q ∧ q < n then A (q + 1) else A q)) yl13_21 ymr_3_144 yna_5 rfl rfl (Nat.le_of_ble_eq_true rfl) ywv_5 ?_ ?_ ?_
  · rw [yZ_b]; exact ⟨ywc_5, Nat.le_of_ble_eq_true rfl, Nat.le_of_ble_eq_true rfl⟩
  · have := y_fast (pF := pF) (d := d + 1) (h := h) (b := b) (e := e) (m := m) hp hn hle hcap hj hA
    rw [← hjo] at this
    exact this
  refine eE_aload_n yl13_24 r3 ?_
  exact eE_end yl13_25 rfl rfl rfl
/-- the next capacity -/
theorem y_408 (hp : ∀ y as h, y ≠ 389 → y ≠ 7 → y ≠ 9 → pF y as h = none) {x y : Nat} (hx : x ≤ 200000) (hy : y ≤ 200000) (h0 : 0 < x + max 1 y) : xCo pF (d + 1) 408 [.int (Int32.ofNat x), .int 1, .int (Int32.ofNat y)] h (some (.int (Int32.ofNat (x + max 1 y)))) h := by
  refine xCo_R ykk_408 ymo_408 yni_408 yxm_408 (Nat.le_of_ble_eq_true rfl) (hp _ _ _ (by decide) (by decide) (by decide)) ?_
  refine eE_iload_n yl408_0 (x := Int32.ofNat x) rfl ?_
  refine eE_iload_n yl408_1 (x := 1) rfl ?_
  refine eE_iload_n yl408_2 (x := Int32.ofNat y) rfl ?_
  refine eE_max yl408_3 ymr_25_194 (Nat.le_of_ble_eq_true rfl) ?_
  have hm : cmax 1 (Int32.ofNat y) = Int32.ofNat (max 1 y) := by
    unfold cmax
    rw [y_one]
    by_cases q : 1 < y
    · rw [if_pos ((y_lt (by omega) (by omega)).mpr q), Nat.max_eq_right (by omega)]
    · rw [if_neg (fun z => q ((y_lt (by omega) (by omega)).mp z)), Nat.max_eq_left (by omega)]
  rw [hm]
  refine eE_iadd yl408_6 ?_
  rw [y_add]
  have hb : max 1 y ≤ 200000 := by omega
  obtain ⟨z1, z2⟩ := y_ofn (n := x + max 1 y) (by omega)
  refine eE_stI (j := 3) yl408_7 (Or.inr ⟨3, rfl, rfl⟩) (by decide) (fun lv1 q3 k3 => ?_)
  refine eE_iconst (v := 0) yl408_8 (by decide) ?_
  refine eE_iload_n yl408_9 q3 ?_
  refine eE_icmp (t := 21) yl408_10 (by decide) (fun q => ?_) (fun _ => ?_)
  · exfalso
    have := (y_le (x := x + max 1 y) (y := 0) (by omega) (by omega)).mp (of_decide_eq_true q)
    omega
  refine eE_iload_n yl408_13 q3 ?_
  refine eE_ldc (v := 2147483639) yl408_14 (by decide +kernel) ?_
  refine eE_icmp (t := 21) yl408_16 (by decide) (fun q => ?_) (fun _ => ?_)
  · exfalso
    have h1 := Int32.lt_iff_toInt_lt.mp (of_decide_eq_true q)
    have h2 := x_ge0 z2
    rw [z1] at h2
    have h3 : (2147483639 : Int32).toInt = 2147483639 := by decide
    omega
  refine eE_iload_n yl408_19 q3 ?_
  exact eE_end yl408_20 rfl rfl rfl
end YM2
