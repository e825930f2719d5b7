/-! Arrays.copyOf -/
theorem xnneg {L : Nat} (h : L ≤ 1000000) : ¬ Int32.ofNat L < 0 := by
  rw [Int32.lt_iff_toInt_lt, Int32.toInt_ofNat_of_lt (by omega)]
  have : (0 : Int32).toInt = 0 := rfl
  omega
theorem xnlt {L : Nat} {n : Int32} (h : L ≤ 1000000) (h4 : L < n.toNatClampNeg) : ¬ n < Int32.ofNat L := by
  rw [Int32.lt_iff_toInt_lt, Int32.toInt_ofNat_of_lt (by omega)]
  have : n.toNatClampNeg = n.toInt.toNat := rfl
  omega
section XCO
variable {pF : Nat → List Value → xH → Option (Option Value × xH)} {d : Nat}
theorem xcopyOf_390 {h hf : xH} {b L : Nat} {n : Int32} (hp : pF 390 [.ref b, .int n] h = none) (h1 : (h.1 b).1 = 20) (h2 : (h.1 b).2.1 = L) (h3 : L ≤ 1000000) (h4 : L < n.toNatClampNeg) (h5 : n.toNatClampNeg ≤ 1000000) (h6 : ¬ n < 0) (h7 : b < h.2.1) (hF : hf = (xset h.1 h.2.1 (20, n.toNatClampNeg, va_cpy (h.1 b).2.2 (fun _ => .int 0) 0 0 L), h.2.1 + 1, h.2.2 + n.toNatClampNeg)) : xCo pF (d + 1) 390 [.ref b, .int n] h (some (.ref h.2.1)) hf := by
  have f1 : (Int32.ofNat L).toNatClampNeg = L := Int32.toNatClampNeg_ofNat_of_lt (by omega)
  have f2 : ¬ n < Int32.ofNat L := xnlt h3 h4
  have f3 : ¬ n = Int32.ofNat L := fun e => by rw [e, f1] at h4; omega
  have f4 : ¬ Int32.ofNat L < 0 := xnneg h3
  have hb : b ≠ h.2.1 := by omega
  refine xCo_R (k := kT390) (o := 18) (ml := 3) (n := 2) (bytes := cJ7_copyOf_59c91) (ret := some (.array .int)) rfl rfl (by decide +kernel) rfl (Nat.le_of_ble_eq_true rfl) hp ?_
  refine eE_iload_n (j := 1) (np := 1) ⟨1, rfl, Or.inr rfl, rfl⟩ rfl ?_
  refine eE_aload_n (j := 0) (np := 2) ⟨1, rfl, Or.inr rfl, rfl⟩ rfl ?_
  refine eE_alen (np := 3) ⟨1, rfl, Or.inr rfl, rfl⟩ (by rw [h1]; decide) ?_
  rw [h2]
  refine eE_icmp (t := 14) (np := 6) ⟨3, rfl, Or.inr rfl, rfl⟩ (by decide) (fun _ => ?_) (fun z => absurd (by simp [xc2, f3]) z)
  refine eE_iload_n (j := 1) (np := 15) ⟨1, rfl, Or.inr rfl, rfl⟩ rfl ?_
  refine eE_newa (t := .int) (j := 0) (np := 17) ⟨2, rfl, Or.inr rfl, rfl⟩ rfl ⟨h6, h5⟩ rfl ?_
  refine eE_stA (j := 2) (np := 18) ⟨1, rfl, Or.inr rfl, rfl⟩ (Or.inr ⟨_, rfl, rfl⟩) (by decide) (fun lv' k1 k2 => ?_)
  have a0 := k2 0 (.ref b) (by decide) (fun _ => rfl) rfl
  have a1 := k2 1 (.int n) (by decide) (fun _ => rfl) rfl
  refine eE_aload_n (j := 0) (np := 19) ⟨1, rfl, Or.inr rfl, rfl⟩ a0 ?_
  refine eE_iconst (v := 0) (np := 20) ⟨1, rfl, Or.inr rfl, rfl⟩ (by decide) ?_
  refine eE_aload_n (j := 2) (np := 21) ⟨1, rfl, Or.inr rfl, rfl⟩ k1 ?_
  refine eE_iconst (v := 0) (np := 22) ⟨1, rfl, Or.inr rfl, rfl⟩ (by decide) ?_
  refine eE_aload_n (j := 0) (np := 23) ⟨1, rfl, Or.inr rfl, rfl⟩ a0 ?_
  refine eE_alen (np := 24) ⟨1, rfl, Or.inr rfl, rfl⟩ (by simp only [xset, if_neg hb, h1]; decide) ?_
  refine eE_iload_n (j := 1) (np := 25) ⟨1, rfl, Or.inr rfl, rfl⟩ a1 ?_
  refine eE_min (np := 28) ⟨3, rfl, Or.inr rfl, rfl⟩ (by decide +kernel) (Nat.le_of_ble_eq_true rfl) ?_
  have e : cmin (Int32.ofNat (xset h.1 h.2.1 (20 + 0, n.toNatClampNeg, fun _ => defaultValue (newarray.typeOf .int)) b).2.1) n = Int32.ofNat L := by
    simp only [xset, if_neg hb, h2]
    unfold cmin
    rw [if_neg f2]
  rw [e]
  refine eE_acpy (np := 31) (h' := hf) ⟨3, rfl, Or.inr rfl, rfl⟩ (by decide +kernel) (by decide +kernel) ?_ ?_ ?_
  · simp only [xset, if_neg hb, if_true, h1, h2, f1, f4]
    refine ⟨by first | trivial | rfl, by decide, by decide, by decide, by decide, by first | trivial | decide, ?_, ?_, by decide⟩
    · show 0 + L ≤ L; omega
    · show 0 + L ≤ n.toNatClampNeg; omega
  · rw [hF]
    simp only [xset, if_neg hb, if_true, f1, Prod.mk.injEq, and_true]
    funext q
    by_cases qq : q = h.2.1
    · simp only [xset, if_pos qq]; rfl
    · simp only [xset, if_neg qq]
  refine eE_aload_n (j := 2) (np := 32) ⟨1, rfl, Or.inr rfl, rfl⟩ k1 ?_
  exact eE_end (np := 33) ⟨1, rfl, Or.inr rfl, rfl⟩ rfl rfl rfl
theorem xcopyOf_392 {h hf : xH} {b L : Nat} {n : Int32} (hp : pF 392 [.ref b, .int n] h = none) (h1 : (h.1 b).1 = 22) (h2 : (h.1 b).2.1 = L) (h3 : L ≤ 1000000) (h4 : L < n.toNatClampNeg) (h5 : n.toNatClampNeg ≤ 1000000) (h6 : ¬ n < 0) (h7 : b < h.2.1) (hF : hf = (xset h.1 h.2.1 (22, n.toNatClampNeg, va_cpy (h.1 b).2.2 (fun _ => .int 0) 0 0 L), h.2.1 + 1, h.2.2 + n.toNatClampNeg)) : xCo pF (d + 1) 392 [.ref b, .int n] h (some (.ref h.2.1)) hf := by
  have f1 : (Int32.ofNat L).toNatClampNeg = L := Int32.toNatClampNeg_ofNat_of_lt (by omega)
  have f2 : ¬ n < Int32.ofNat L := xnlt h3 h4
  have f3 : ¬ n = Int32.ofNat L := fun e => by rw [e, f1] at h4; omega
  have f4 : ¬ Int32.ofNat L < 0 := xnneg h3
  have hb : b ≠ h.2.1 := by omega
  refine xCo_R (k := kT392) (o := 18) (ml := 3) (n := 2) (bytes := cJ7_copyOf_9075b) (ret := some (.array .byte)) rfl rfl (by decide +kernel) rfl (Nat.le_of_ble_eq_true rfl) hp ?_
  refine eE_iload_n (j := 1) (np := 1) ⟨1, rfl, Or.inr rfl, rfl⟩ rfl ?_
  refine eE_aload_n (j := 0) (np := 2) ⟨1, rfl, Or.inr rfl, rfl⟩ rfl ?_
  refine eE_alen (np := 3) ⟨1, rfl, Or.inr rfl, rfl⟩ (by rw [h1]; decide) ?_
  rw [h2]
  refine eE_icmp (t := 14) (np := 6) ⟨3, rfl, Or.inr rfl, rfl⟩ (by decide) (fun _ => ?_) (fun z => absurd (by simp [xc2, f3]) z)
  refine eE_iload_n (j := 1) (np := 15) ⟨1, rfl, Or.inr rfl, rfl⟩ rfl ?_
  refine eE_newa (t := .byte) (j := 2) (np := 17) ⟨2, rfl, Or.inr rfl, rfl⟩ rfl ⟨h6, h5⟩ rfl ?_
  refine eE_stA (j := 2) (np := 18) ⟨1, rfl, Or.inr rfl, rfl⟩ (Or.inr ⟨_, rfl, rfl⟩) (by decide) (fun lv' k1 k2 => ?_)
  have a0 := k2 0 (.ref b) (by decide) (fun _ => rfl) rfl
  have a1 := k2 1 (.int n) (by decide) (fun _ => rfl) rfl
  refine eE_aload_n (j := 0) (np := 19) ⟨1, rfl, Or.inr rfl, rfl⟩ a0 ?_
  refine eE_iconst (v := 0) (np := 20) ⟨1, rfl, Or.inr rfl, rfl⟩ (by decide) ?_
  refine eE_aload_n (j := 2) (np := 21) ⟨1, rfl, Or.inr rfl, rfl⟩ k1 ?_
  refine eE_iconst (v := 0) (np := 22) ⟨1, rfl, Or.inr rfl, rfl⟩ (by decide) ?_
  refine eE_aload_n (j := 0) (np := 23) ⟨1, rfl, Or.inr rfl, rfl⟩ a0 ?_
  refine eE_alen (np := 24) ⟨1, rfl, Or.inr rfl, rfl⟩ (by simp only [xset, if_neg hb, h1]; decide) ?_
  refine eE_iload_n (j := 1) (np := 25) ⟨1, rfl, Or.inr rfl, rfl⟩ a1 ?_
  refine eE_min (np := 28) ⟨3, rfl, Or.inr rfl, rfl⟩ (by decide +kernel) (Nat.le_of_ble_eq_true rfl) ?_
  have e : cmin (Int32.ofNat (xset h.1 h.2.1 (20 + 2, n.toNatClampNeg, fun _ => defaultValue (newarray.typeOf .byte)) b).2.1) n = Int32.ofNat L := by
    simp only [xset, if_neg hb, h2]
    unfold cmin
    rw [if_neg f2]
  rw [e]
  refine eE_acpy (np := 31) (h' := hf) ⟨3, rfl, Or.inr rfl, rfl⟩ (by decide +kernel) (by decide +kernel) ?_ ?_ ?_
  · simp only [xset, if_neg hb, if_true, h1, h2, f1, f4]
    refine ⟨by first | trivial | rfl, by decide, by decide, by decide, by decide, by first | trivial | decide, ?_, ?_, by decide⟩
    · show 0 + L ≤ L; omega
    · show 0 + L ≤ n.toNatClampNeg; omega
  · rw [hF]
    simp only [xset, if_neg hb, if_true, f1, Prod.mk.injEq, and_true]
    funext q
    by_cases qq : q = h.2.1
    · simp only [xset, if_pos qq]; rfl
    · simp only [xset, if_neg qq]
  refine eE_aload_n (j := 2) (np := 32) ⟨1, rfl, Or.inr rfl, rfl⟩ k1 ?_
  exact eE_end (np := 33) ⟨1, rfl, Or.inr rfl, rfl⟩ rfl rfl rfl
end XCO
