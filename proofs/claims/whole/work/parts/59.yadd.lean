/-! ArrayList's members over plain heaps: more places, add, add at a place -/
section YM3
variable {pF : Nat → List Value → xH → Option (Option Value × xH)} {d eD : Nat} {h : xH} {b e n cap : Nat} {m : Int32} {A : Nat → Value}
theorem y_shr {x : Nat} (hx : x ≤ 1000000) : Int32.ofNat x >>> ((1 : Int32) &&& 31) = Int32.ofNat (x / 2) := by
  have k := pk_shrN (n := x) (by omega) ((1 : Int32) &&& 31) 1 (by decide)
  rw [Nat.pow_one] at k
  exact k
/-- a heap with n slots and one cell more -/
def yUp (h : xH) (n : Nat) : xH := (h.1, h.2.1 + 1, h.2.2 + n)
/-- what the two things that are done by themselves promise -/
def yB (eD : Nat) (pF : Nat → List Value → xH → Option (Option Value × xH)) : Prop := (∀ y as h, y ≠ 389 → y ≠ 7 → y ≠ 9 → pF y as h = none) ∧ (∀ b n h, ygC h b n → pF 389 [.ref b, .int n] h = some (some (.ref h.2.1), yhC h b n)) ∧
  (∀ a h, (h.1 a).1 = 4 → (h.1 a).2.2 1 = .ref eD → (h.1 eD).1 = 24 → (h.1 eD).2.1 = 0 → a < h.2.1 → pF 7 [.ref a, .int 1] h = some (some (.ref h.2.1), yhG h a)) ∧ (∀ a k h, k ≠ 1 → pF 7 [.ref a, .int k] h = none) ∧ (∀ a h, (h.1 a).1 = 4 → pF 9 [.ref a] h = some (none, yhI h a eD))
theorem pY_B {eD : Nat} : yB eD (pY eD) := by
  refine ⟨fun y as h h1 h2 h3 => pY_none h1 h2 h3 as h, fun b n h hg => ?_, fun a h h1 h2 h3 h4 h5 => ?_, fun a k h hk => ?_, fun a h ht => ?_⟩
  · unfold pY
    rw [if_pos rfl]
    dsimp only
    rw [if_pos hg]
  · unfold pY
    rw [if_neg (by decide), if_pos rfl]
    dsimp only
    rw [if_pos ⟨rfl, h1, h2, h3, h4, h5⟩]
  · unfold pY
    rw [if_neg (by decide), if_pos rfl]
    dsimp only
    rw [if_neg (fun z => hk z.1)]
  · unfold pY
    rw [if_neg (by decide), if_neg (by decide), if_pos rfl]
    dsimp only
    rw [if_pos ht]
theorem y_grow1 (hB : yB eD pF) (hd : 4 ≤ d) (hn : b ≠ e) (hc0 : 0 < cap) (hcap : cap ≤ 100000) (hA : yLet h b e cap A) (hb : b < h.2.1) (he : e < h.2.1) :
    xCo pF (d + 2) 7 [.ref b, .int (Int32.ofNat (cap + 1))] (yZ h b e m cap cap A) (some (.ref h.2.1)) (yZ (yUp (yZ h b e m cap cap A) (cap + max 1 (cap / 2))) b h.2.1 m cap (cap + max 1 (cap / 2)) (va_cpy A (fun _ => .null) 0 0 cap)) := by
  have hk1 : Int32.ofNat (cap + 1) ≠ 1 := fun z => by
    have := (y_ofn (n := cap + 1) (by omega)).1
    rw [z] at this
    have h1 : (1 : Int32).toNatClampNeg = 1 := rfl
    omega
  refine xCo_R ykk_7 ymo_7 yni_7 yxm_7 (Nat.le_of_ble_eq_true rfl) (hB.2.2.2.1 _ _ _ hk1) ?_
  obtain ⟨c1, c2⟩ := y_ofn (n := cap) (by omega)
  have hmx : max 1 (cap / 2) ≤ 50000 := by omega
  obtain ⟨w1, w2⟩ := y_ofn (n := cap + max 1 (cap / 2)) (by omega)
  have hpos : 1 ≤ max 1 (cap / 2) := Nat.le_max_left _ _
  have hbn : b ≠ h.2.1 := by omega
  have hen : e ≠ h.2.1 := by omega
  refine eE_aload_n yl7_0 (x := b) rfl ?_
  refine yE_getf yl7_1 yrf_3_9 (by rw [yZ_b]) (v := .ref e) (by rw [yZ_b]; rfl) ?_
  refine eE_alen yl7_4 (by rw [yZ_e hn]; exact Nat.le_of_ble_eq_true rfl) ?_
  rw [yZ_e hn]
  refine eE_stI (j := 2) yl7_5 (Or.inr ⟨2, rfl, rfl⟩) (by decide) (fun lv1 q2 k2 => ?_)
  have q0 : xg lv1 0 = some (.ref b) := k2 0 _ (by decide) (fun _ => rfl) rfl
  have q1 : xg lv1 1 = some (.int (Int32.ofNat (cap + 1))) := k2 1 _ (by decide) (fun _ => rfl) rfl
  refine eE_iload_n yl7_6 q2 ?_
  refine eE_if (t := 20) yl7_7 (by decide) (fun _ => ?_) (fun q => absurd (decide_eq_true (show (0 : Int32) < Int32.ofNat cap from (y_lt (x := 0) (by omega) (by omega)).mpr hc0)) q)
  refine eE_iload_n yl7_20 q2 ?_
  refine eE_iload_n yl7_21 q1 ?_
  refine eE_iload_n yl7_22 q2 ?_
  refine eE_isub yl7_23 ?_
  rw [y_sub (show cap ≤ cap + 1 by omega), Nat.add_sub_cancel_left]
  refine eE_iload_n yl7_24 q2 ?_
  refine eE_iconst (v := 1) yl7_25 (by decide) ?_
  refine eE_ishr yl7_26 ?_
  rw [show (24, cap, A).2.1 = cap from rfl, y_shr (by omega)]
  refine eE_stat (as := [.int (Int32.ofNat cap), .int 1, .int (Int32.ofNat (cap / 2))]) (r := some (.int (Int32.ofNat (cap + max 1 (cap / 2))))) (h' := yZ h b e m cap cap A) yl7_27 ymr_3_73 yna_408 rfl rfl (Nat.le_of_ble_eq_true rfl) ymm_408 yws_408 (y_408 (d := d) hB.1 (by omega) (by omega) (by omega)) ?_
  refine eE_stI (j := 3) yl7_30 (Or.inr ⟨3, rfl, rfl⟩) (by decide) (fun lv2 r3 k3 => ?_)
  have r0 : xg lv2 0 = some (.ref b) := k3 0 _ (by decide) (fun _ => rfl) q0
  refine eE_aload_n yl7_31 r0 ?_
  refine eE_aload_n yl7_32 r0 ?_
  refine yE_getf yl7_33 yrf_3_9 (by rw [yZ_b]) (v := .ref e) (by rw [yZ_b]; rfl) ?_
  refine eE_iload_n yl7_36 r3 ?_
  have hg : ygC (yZ h b e m cap cap A) e (Int32.ofNat (cap + max 1 (cap / 2))) := by
    refine ⟨by rw [yZ_e hn], w2, by rw [w1]; omega, by rw [w1]; omega, by rw [yZ_e hn, w1]; show cap ≤ _; omega, he, ?_, by rw [yZ_e hn]; exact hc0⟩
    rw [yZ_e hn]
    exact List.all_eq_true.mpr fun i hi => yLet_x (hA := hA) (List.mem_range.mp hi)
  refine eE_stat (as := [.ref e, .int (Int32.ofNat (cap + max 1 (cap / 2)))]) (r := some (.ref h.2.1)) (h' := yhC (yZ h b e m cap cap A) e (Int32.ofNat (cap + max 1 (cap / 2)))) yl7_37 ymr_3_66 yna_389 rfl rfl (Nat.le_of_ble_eq_true rfl) ymm_389 yws_389 (yCo_b (hB.2.1 _ _ _ hg) hd) ?_
  refine eE_dup_x1 yl7_40 rfl rfl ?_
  have hcb : (yhC (yZ h b e m cap cap A) e (Int32.ofNat (cap + max 1 (cap / 2)))).1 b = (4, 3, yV m e cap) := by
    show xset _ h.2.1 _ b = _
    simp only [xset, if_neg hbn, yZ_b]
  refine yE_putE (h' := yZ (yUp (yZ h b e m cap cap A) (cap + max 1 (cap / 2))) b h.2.1 m cap (cap + max 1 (cap / 2)) (va_cpy A (fun _ => .null) 0 0 cap)) yl7_41 rfl (by rw [hcb]) ?_ ?_
  · rw [hcb]
    refine Prod.ext (funext fun a => ?_) ?_
    · show (if a = b then (4, 3, yV m h.2.1 cap) else if a = h.2.1 then (24, cap + max 1 (cap / 2), va_cpy A (fun _ => .null) 0 0 cap) else (yZ h b e m cap cap A).1 a) = if a = b then (4, 3, updV (yV m e cap) 1 (.ref h.2.1)) else if a = h.2.1 then (24, (Int32.ofNat (cap + max 1 (cap / 2))).toNatClampNeg, va_cpy ((yZ h b e m cap cap A).1 e).2.2 (fun _ => .null) 0 0 ((yZ h b e m cap cap A).1 e).2.1) else (yZ h b e m cap cap A).1 a
      rw [yV1, w1, yZ_e hn]
    · show (h.2.1 + 1, h.2.2 + _) = (h.2.1 + 1, h.2.2 + _)
      rw [w1]
  exact eE_end yl7_44 rfl rfl rfl
/-- a list's places, made anew: the new elementData's address is the next free one -/
def yFull (eD : Nat) (h : xH) (b e n cap : Nat) (A : Nat → Value) : Prop := n = cap ∧ b < h.2.1 ∧ e < h.2.1 ∧ cap ≤ 100000 ∧ ((cap = 0 ∧ e = eD) ∨ (0 < cap ∧ yLet h b e cap A))
theorem y_grow (hB : yB eD pF) (hd : 4 ≤ d) (hn : b ≠ e) (hf : yFull eD h b e n cap A) :
    xCo pF (d + 3) 8 [.ref b] (yZ h b e m n cap A) (some (.ref h.2.1)) (yZ (yUp (yZ h b e m n cap A) (clcap cap)) b h.2.1 m n (clcap cap) (va_cpy A (fun _ => .null) 0 0 cap)) := by
  obtain ⟨rfl, hb, he, hcap, hcs⟩ := hf
  refine xCo_R ykk_8 ymo_8 yni_8 yxm_8 (Nat.le_of_ble_eq_true rfl) (hB.1 _ _ _ (by decide) (by decide) (by decide)) ?_
  refine eE_aload_n yl8_0 (x := b) rfl ?_
  refine eE_aload_n yl8_1 (x := b) rfl ?_
  refine yE_getf yl8_2 yrf_3_48 (by rw [yZ_b]) (v := .int (Int32.ofNat n)) (by rw [yZ_b]; rfl) ?_
  refine eE_iconst (v := 1) yl8_5 (by decide) ?_
  refine eE_iadd yl8_6 ?_
  rw [y_one, y_add]
  rcases hcs with ⟨rfl, rfl⟩ | ⟨hc0, hA⟩
  · have hbn : b ≠ h.2.1 := by omega
    refine eE_virt (as := [.int (Int32.ofNat 1)]) (r := some (.ref h.2.1)) (h' := yZ (yUp (yZ h b e m 0 0 A) (clcap 0)) b h.2.1 m 0 (clcap 0) (va_cpy A (fun _ => .null) 0 0 0)) yl8_7 ymr_3_69 yna_7 rfl rfl (Nat.le_of_ble_eq_true rfl) ywv_7 ?_ ?_ ?_
    · rw [yZ_b]; exact ⟨ywc_7, Nat.le_of_ble_eq_true rfl, Nat.le_of_ble_eq_true rfl⟩
    · refine yCo_b ?_ (by omega)
      have := hB.2.2.1 b (yZ h b e m 0 0 A) (by rw [yZ_b]) (by rw [yZ_b]; rfl) (by rw [yZ_e hn]) (by rw [yZ_e hn]) hb
      refine this.trans ?_
      congr 2
      refine Prod.ext (funext fun a => ?_) rfl
      show (if a = b then (4, ((yZ h b e m 0 0 A).1 b).2.1, updV ((yZ h b e m 0 0 A).1 b).2.2 1 (.ref h.2.1)) else if a = h.2.1 then (24, 10, fun _ => .null) else (yZ h b e m 0 0 A).1 a) = if a = b then (4, 3, yV m h.2.1 0) else if a = h.2.1 then (24, clcap 0, va_cpy A (fun _ => .null) 0 0 0) else (yZ h b e m 0 0 A).1 a
      rw [yZ_b, yV1]
      have : va_cpy A (fun _ => Value.null) 0 0 0 = fun _ => Value.null := by
        funext q
        unfold va_cpy
        rw [if_neg (by omega)]
      rw [this]
      rfl
    exact eE_end yl8_10 rfl rfl rfl
  · have hcl : clcap n = n + max 1 (n / 2) := by
      unfold clcap
      rw [if_neg (by omega)]
      split
      · rw [Nat.max_eq_left (by omega)]
      · rw [Nat.max_eq_right (by omega)]
    rw [hcl]
    refine eE_virt (as := [.int (Int32.ofNat (n + 1))]) (r := some (.ref h.2.1)) (h' := yZ (yUp (yZ h b e m n n A) (n + max 1 (n / 2))) b h.2.1 m n (n + max 1 (n / 2)) (va_cpy A (fun _ => .null) 0 0 n)) yl8_7 ymr_3_69 yna_7 rfl rfl (Nat.le_of_ble_eq_true rfl) ywv_7 ?_ (y_grow1 hB hd hn hc0 hcap hA hb he) ?_
    · rw [yZ_b]; exact ⟨ywc_7, Nat.le_of_ble_eq_true rfl, Nat.le_of_ble_eq_true rfl⟩
    exact eE_end yl8_10 rfl rfl rfl
/-- behind the places: the letter is laid -/
theorem y_add0 (hB : yB eD pF) (hd : 4 ≤ d) (hn : b ≠ e) (hcap : cap ≤ 1000000) {v : Nat} (hlt : n < cap) (hvb : v ≠ b) (hve : v ≠ e) (hv : (h.1 v).1 = 9) :
    xCo pF (d + 4) 0 [.ref b, .ref v, .ref e, .int (Int32.ofNat n)] (yZ h b e m n cap A) none (yZ h b e m (n + 1) cap (updV A n (.ref v))) := by
  refine xCo_R ykk_0 ymo_0 yni_0 yxm_0 (Nat.le_of_ble_eq_true rfl) (hB.1 _ _ _ (by decide) (by decide) (by decide)) ?_
  obtain ⟨n1, n2⟩ := y_ofn (n := n) (by omega)
  refine eE_iload_n yl0_0 (x := Int32.ofNat n) rfl ?_
  refine eE_aload_n yl0_1 (x := e) rfl ?_
  refine eE_alen yl0_2 (by rw [yZ_e hn]; exact Nat.le_of_ble_eq_true rfl) ?_
  rw [yZ_e hn]
  refine eE_icmp (t := 11) yl0_3 (by decide) (fun _ => ?_) (fun q => ?_)
  · refine eE_aload_n yl0_11 (x := e) rfl ?_
    refine eE_iload_n yl0_12 (x := Int32.ofNat n) rfl ?_
    refine eE_aload_n yl0_13 (x := v) rfl ?_
    refine yE_aast yl0_14 (by rw [yZ_e hn]) (by rw [yZ_o hvb hve]; exact hv) (by rw [yZ_e hn]; show ¬ (_ ∨ cap ≤ _); rw [n1]; exact fun z => z.elim n2 (fun z => by omega)) rfl ?_
    rw [yZ_se (A' := updV A n (.ref v)) hn (by rw [yZ_e hn, n1])]
    refine eE_aload_n yl0_15 (x := b) rfl ?_
    refine eE_iload_n yl0_16 (x := Int32.ofNat n) rfl ?_
    refine eE_iconst (v := 1) yl0_17 (by decide) ?_
    refine eE_iadd yl0_18 ?_
    rw [y_one, y_add]
    refine yE_putS yl0_19 rfl (by rw [yZ_b]) rfl ?_
    rw [yZ_sb (m' := m) (n' := n + 1) (by rw [yZ_b]; exact Prod.ext rfl (Prod.ext rfl yV2))]
    exact eE_end yl0_22 rfl rfl rfl
  · exfalso
    refine q ?_
    have : Int32.ofNat n ≠ Int32.ofNat cap := fun z => by
      have e1 := (y_ofn (n := cap) (by omega)).1
      rw [← z, n1] at e1
      omega
    simp [xc2, this]
theorem y_add0g (hB : yB eD pF) (hd : 4 ≤ d) (hn : b ≠ e) (hf : yFull eD h b e n cap A) {v : Nat} (hvb : v ≠ b) (hve : v ≠ e) (hvn : v < h.2.1) (hv : (h.1 v).1 = 9) :
    xCo pF (d + 4) 0 [.ref b, .ref v, .ref e, .int (Int32.ofNat n)] (yZ h b e m n cap A) none (yZ (yUp (yZ h b e m n cap A) (clcap cap)) b h.2.1 m (n + 1) (clcap cap) (updV (va_cpy A (fun _ => .null) 0 0 cap) n (.ref v))) := by
  have hf' := hf
  obtain ⟨rfl, hb, he, hcap, hcs⟩ := hf'
  refine xCo_R ykk_0 ymo_0 yni_0 yxm_0 (Nat.le_of_ble_eq_true rfl) (hB.1 _ _ _ (by decide) (by decide) (by decide)) ?_
  obtain ⟨n1, n2⟩ := y_ofn (n := n) (by omega)
  have hcl : n < clcap n := by
    unfold clcap
    split
    · omega
    · split <;> omega
  have hbn : b ≠ h.2.1 := by omega
  refine eE_iload_n yl0_0 (x := Int32.ofNat n) rfl ?_
  refine eE_aload_n yl0_1 (x := e) rfl ?_
  refine eE_alen yl0_2 (by rw [yZ_e hn]; exact Nat.le_of_ble_eq_true rfl) ?_
  rw [yZ_e hn]
  refine eE_icmp (t := 11) yl0_3 (by decide) (fun q => by simp [xc2] at q) (fun _ => ?_)
  refine eE_aload_n yl0_6 (x := b) rfl ?_
  refine eE_virt (as := []) (r := some (.ref h.2.1)) (h' := yZ (yUp (yZ h b e m n n A) (clcap n)) b h.2.1 m n (clcap n) (va_cpy A (fun _ => .null) 0 0 n)) yl0_7 ymr_3_129 yna_8 rfl rfl (Nat.le_of_ble_eq_true rfl) ywv_8 ?_ (y_grow hB hd hn hf) ?_
  · rw [yZ_b]; exact ⟨ywc_8, Nat.le_of_ble_eq_true rfl, Nat.le_of_ble_eq_true rfl⟩
  refine eE_stA (j := 2) yl0_10 (Or.inr ⟨2, rfl, rfl⟩) (by decide) (fun lv1 q2 k2 => ?_)
  have q0 : xg lv1 0 = some (.ref b) := k2 0 _ (by decide) (fun _ => rfl) rfl
  have q1 : xg lv1 1 = some (.ref v) := k2 1 _ (by decide) (fun _ => rfl) rfl
  have q3 : xg lv1 3 = some (.int (Int32.ofNat n)) := k2 3 _ (by decide) (fun q => absurd q (by decide)) rfl
  refine eE_aload_n yl0_11 q2 ?_
  refine eE_iload_n yl0_12 q3 ?_
  refine eE_aload_n yl0_13 q1 ?_
  have hvn' : v ≠ h.2.1 := by omega
  refine yE_aast yl0_14 (by rw [yZ_e hbn]) (by rw [yZ_o hvb hvn']; show ((yZ h b e m n n A).1 v).1 = 9; rw [yZ_o hvb hve]; exact hv) (by rw [yZ_e hbn]; show ¬ (_ ∨ clcap n ≤ _); rw [n1]; exact fun z => z.elim n2 (fun z => by omega)) rfl ?_
  rw [yZ_se (A' := updV (va_cpy A (fun _ => .null) 0 0 n) n (.ref v)) hbn (by rw [yZ_e hbn, n1])]
  refine eE_aload_n yl0_15 q0 ?_
  refine eE_iload_n yl0_16 q3 ?_
  refine eE_iconst (v := 1) yl0_17 (by decide) ?_
  refine eE_iadd yl0_18 ?_
  rw [y_one, y_add]
  refine yE_putS yl0_19 rfl (by rw [yZ_b]) rfl ?_
  rw [yZ_sb (m' := m) (n' := n + 1) (by rw [yZ_b]; exact Prod.ext rfl (Prod.ext rfl yV2))]
  exact eE_end yl0_22 rfl rfl rfl
/-- add, given what comes of add with the places -/
theorem y_add2 (hB : yB eD pF) (hn : b ≠ e) {v : Nat} {hf : xH} (h0 : xCo pF (d + 4) 0 [.ref b, .ref v, .ref e, .int (Int32.ofNat n)] (yZ h b e (m + 1) n cap A) none hf) : xCo pF (d + 5) 2 [.ref b, .ref v] (yZ h b e m n cap A) (some (.int 1)) hf := by
  refine xCo_R ykk_2 ymo_2 yni_2 yxm_2 (Nat.le_of_ble_eq_true rfl) (hB.1 _ _ _ (by decide) (by decide) (by decide)) ?_
  refine eE_aload_n yl2_0 (x := b) rfl ?_
  refine y_inc yl2_1 yl2_2 yl2_5 yl2_6 yl2_7 ?_
  refine eE_aload_n yl2_10 (x := b) rfl ?_
  refine eE_aload_n yl2_11 (x := v) rfl ?_
  refine eE_aload_n yl2_12 (x := b) rfl ?_
  refine yE_getf yl2_13 yrf_3_9 (by rw [yZ_b]) (v := .ref e) (by rw [yZ_b]; rfl) ?_
  refine eE_aload_n yl2_16 (x := b) rfl ?_
  refine yE_getf yl2_17 yrf_3_48 (by rw [yZ_b]) (v := .int (Int32.ofNat n)) (by rw [yZ_b]; rfl) ?_
  refine eE_virt (as := [.ref v, .ref e, .int (Int32.ofNat n)]) (r := none) (h' := hf) yl2_20 ymr_3_131 yna_0 rfl rfl (Nat.le_of_ble_eq_true rfl) ywv_0 ?_ h0 ?_
  · rw [yZ_b]; exact ⟨ywc_0, Nat.le_of_ble_eq_true rfl, Nat.le_of_ble_eq_true rfl⟩
  refine eE_iconst (v := 1) yl2_23 (by decide) ?_
  exact eE_end yl2_24 rfl rfl rfl
end YM3
