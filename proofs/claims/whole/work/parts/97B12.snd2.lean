/-! sending what a peer lacks -/
theorem aLow8_i {x : Int32} : (aLow8 x).toInt8.toInt32 = aLow8 x := i_b8
theorem a4_b {v : Int32} : ∀ b ∈ a4 v, aLow8 b = b := by
  intro b hb
  unfold a4 at hb
  simp only [List.mem_cons, List.not_mem_nil, or_false] at hb
  rcases hb with rfl | rfl | rfl | rfl <;> exact aLow8_i
theorem aEnc_b {M : AM} (h : wfM M) : ∀ b ∈ aEnc M, aLow8 b = b := by
  obtain ⟨h1, h2, h3, h4⟩ := h
  intro b hb
  unfold aEnc at hb
  simp only [List.mem_append, List.mem_flatMap, List.mem_cons, List.not_mem_nil, or_false] at hb
  rcases hb with ((hb | ⟨x, hx, hb⟩) | hb) | ⟨e, he, hb⟩
  · exact a4_b b hb
  · rcases hb with ((((hb | hb) | hb) | hb) | hb) | hb
    · exact a4_b b hb
    · exact a4_b b hb
    · exact a4_b b hb
    · exact a4_b b hb
    · rcases hb with rfl | rfl <;> exact aLow8_i
    · exact (h3 x hx).2 b hb
  · exact a4_b b hb
  · rcases hb with (hb | hb) | hb
    · rcases hb with rfl | rfl | rfl <;> exact aLow8_i
    · exact (h4 e he).2.2.1 b hb
    · exact (h4 e he).2.2.2 b hb
theorem sh_bytes {F : Nat} {a : AA} {u : AU} {s p k o N : Nat} {σ0 : RS} {Q : RS → Prop} (hF : 400 ≤ F) (hs : s < 7) (hk : k < 49) (hN : N ≤ 200) (h : RM σ0 a u) (ho : aS a 90 k = Int32.ofNat o) (hl : N = 0 ∨ (o + N ≤ (aEnc (aSh a s)).length ∧ (aEnc (aSh a s)).length ≤ 13980 ∧ ∀ i, i < (aEnc (aSh a s)).length → σ0.1 66 (14000 * s + i) = (aEnc (aSh a s)).getD i 0))
    (hQ : ∀ τ, SLf 352 σ0 τ → Fr [] [16] σ0 τ → (∀ y, y < N → rLb τ 352 y = (aEnc (aSh a s)).getD (o + y) 0) → WP ((m_post F τ (Int32.ofNat s) (Int32.ofNat p)).bind fun p2 => some p2) Q) :
    ∀ n q (τ : RS), N + 1 ≤ q + n → q ≤ N → SLf 352 σ0 τ → Fr [] [16] σ0 τ → (∀ y, y < q → rLb τ 352 y = (aEnc (aSh a s)).getD (o + y) 0) → WP (m_send_b173 F n τ (Int32.ofNat s) (Int32.ofNat p) (Int32.ofNat k) (Int32.ofNat N) (Int32.ofNat q)) Q := by
  intro n
  induction n with
  | zero => intro q τ h1 h2; omega
  | succ n ih =>
    intro q τ h1 h2 hS hFr hb
    unfold m_send_b173
    refine WP_if (i_gei (by omega) (by omega)) (fun q2 => ?_) (fun q2 => ?_)
    · have : q = N := by omega
      subst this
      exact hQ τ hS hFr hb
    · have hτ : RM τ a u := RM_out h hS
      refine WP_r49 hτ (by decide) hk ?_
      obtain ⟨l1, l2, l3⟩ := hl.resolve_left (by omega)
      rw [ho, show (14000 : Int32) * Int32.ofNat s + Int32.ofNat o + Int32.ofNat q = Int32.ofNat (14000 * s + (o + q)) by
        rw [Int32.ofNat_add, Int32.ofNat_add, Int32.ofNat_mul, ← Int32.add_assoc]
        rfl]
      refine WP_ld rfl 98000 (by decide +kernel) (by omega) ?_
      rw [hFr.1 66 (by decide), l3 (o + q) (by omega), show (540672 : Int32) + Int32.ofNat q = Int32.ofNat (540672 + q) from i_ad (c := 540672)]
      refine WP_eq (m_layLetter_n (by omega)) ?_
      rw [i_s]
      have hv : ((aEnc (aSh a s)).getD (o + q) 0).toInt8.toInt32 = (aEnc (aSh a s)).getD (o + q) 0 := by
        rw [List.getD_eq_getElem?_getD, List.getElem?_eq_getElem (by omega)]
        exact aEnc_b (hτ.2.2.2.2.2.2.2.2.2.2.1 s hs).1 _ (List.getElem_mem _)
      refine ih (q + 1) _ (by omega) (by omega) (SLf_L hS (by omega)) (Fr_w (Fr_t hFr Fr_L) (by simp) (by simp)) (fun y hy => ?_)
      rw [rLb_lay hv]
      by_cases q3 : y = q
      · rw [if_pos q3, q3]
      · rw [if_neg q3]
        exact hb y (by omega)
theorem aMin_200 {z o : Int32} (h1 : 0 ≤ o) (h2 : o ≤ z) : ∃ N, aMin 200 (z - o) = Int32.ofNat N ∧ N ≤ 200 ∧ (N : Int) ≤ z.toInt - o.toInt := by
  rw [Int32.le_iff_toInt_le, i_0] at h1
  rw [Int32.le_iff_toInt_le] at h2
  have e : (z - o).toInt = z.toInt - o.toInt := i_subI (by have := z.toInt_lt; omega) (by have := z.toInt_lt; omega)
  unfold aMin
  by_cases q : (200 : Int32) ≤ z - o
  · rw [if_pos q]
    rw [Int32.le_iff_toInt_le, e, show (200 : Int32).toInt = 200 by decide] at q
    exact ⟨200, rfl, Nat.le_refl _, by omega⟩
  · rw [if_neg q]
    rw [Int32.le_iff_toInt_le, e, show (200 : Int32).toInt = 200 by decide] at q
    refine ⟨(z.toInt - o.toInt).toNat, ?_, by omega, by omega⟩
    rw [← Int32.toInt_inj, e, Int32.toInt_ofNat_of_lt (by omega)]
    omega
theorem M_piece {F : Nat} {σ : RS} {a : AA} {u : AU} {s p : Nat} (hF : 400 ≤ F) (h : RM σ a u) (hs : s < 7) (hp : p < 7) (h0 : 0 ≤ aS a 90 (7 * s + p)) (hz : aS a 90 (7 * s + p) ≤ aS a 67 s) : WP (m_send_b75 F σ (aMin 200 (aS a 67 s - aS a 90 (7 * s + p))) (Int32.ofNat s) (Int32.ofNat p) (Int32.ofNat (7 * s + p))) (fun σ' => RM σ' (A_post a s (aPiece a s p)) u) := by
  obtain ⟨N, eN, N1, N2⟩ := aMin_200 h0 hz
  have eo := i_of h0
  unfold m_send_b75
  have h90 := i_nat h0
  generalize hO : (aS a 90 (7 * s + p)).toNatClampNeg = o at eo h90
  refine WP_r7 h (by decide) hs ?_
  refine WP_r7 h (by decide) hs ?_
  refine WP_r7 h (by decide) hs ?_
  refine WP_r7 h (by decide) hs ?_
  refine WP_eq m_write_n ?_
  have h1 : RM (wrO σ 7 (aS a 53 s) (aS a 55 s) (aS a 57 s) (aS a 58 s)) a u := RM_out h wrO_S
  refine WP_r7 h1 (by decide) hs ?_
  refine WP_st (n := 2819) rfl 2832 (by decide +kernel) (by omega) ?_
  have h2 := RM_out h1 (SLf_I (f := 12) (i := 2819) (v := aS a 67 s) SLf_refl (by unfold sOf; omega))
  refine WP_r49 h2 (by decide) (by omega) ?_
  refine WP_st (n := 2820) rfl 2832 (by decide +kernel) (by omega) ?_
  refine WP_st (n := 2821) rfl 2832 (by decide +kernel) (by omega) ?_
  have h3 := RM_out h2 (SLf_I (f := 12) (i := 2821) (v := aMin 200 (aS a 67 s - aS a 90 (7 * s + p))) (SLf_I (f := 12) (i := 2820) (v := aS a 90 (7 * s + p)) SLf_refl (by unfold sOf; omega)) (by unfold sOf; omega))
  refine WP_r7 h3 (by decide) hs ?_
  refine WP_st (n := 2822) rfl 2832 (by decide +kernel) (by omega) ?_
  refine WP_st (n := 352) rfl 354 (by decide +kernel) (by omega) ?_
  have h4 := RM_out h3 (SLf_I (f := 11) (i := 352) (v := aMin 200 (aS a 67 s - aS a 90 (7 * s + p))) (SLf_I (f := 12) (i := 2822) (v := aS a 83 s) SLf_refl (by unfold sOf; omega)) (by unfold sOf; omega))
  have x8 : (setI (setI (setI (setI (setI (wrO σ 7 (aS a 53 s) (aS a 55 s) (aS a 57 s) (aS a 58 s)) 12 2819 (aS a 67 s)) 12 2820 (aS a 90 (7 * s + p))) 12 2821 (aMin 200 (aS a 67 s - aS a 90 (7 * s + p)))) 12 2822 (aS a 83 s)) 11 352 (aMin 200 (aS a 67 s - aS a 90 (7 * s + p)))).1 8 352 = 7 := rfl
  have x9 : (setI (setI (setI (setI (setI (wrO σ 7 (aS a 53 s) (aS a 55 s) (aS a 57 s) (aS a 58 s)) 12 2819 (aS a 67 s)) 12 2820 (aS a 90 (7 * s + p))) 12 2821 (aMin 200 (aS a 67 s - aS a 90 (7 * s + p)))) 12 2822 (aS a 83 s)) 11 352 (aMin 200 (aS a 67 s - aS a 90 (7 * s + p)))).1 9 352 = aS a 53 s := rfl
  have x10 : (setI (setI (setI (setI (setI (wrO σ 7 (aS a 53 s) (aS a 55 s) (aS a 57 s) (aS a 58 s)) 12 2819 (aS a 67 s)) 12 2820 (aS a 90 (7 * s + p))) 12 2821 (aMin 200 (aS a 67 s - aS a 90 (7 * s + p)))) 12 2822 (aS a 83 s)) 11 352 (aMin 200 (aS a 67 s - aS a 90 (7 * s + p)))).1 10 352 = 0 := rfl
  have x11 : (setI (setI (setI (setI (setI (wrO σ 7 (aS a 53 s) (aS a 55 s) (aS a 57 s) (aS a 58 s)) 12 2819 (aS a 67 s)) 12 2820 (aS a 90 (7 * s + p))) 12 2821 (aMin 200 (aS a 67 s - aS a 90 (7 * s + p)))) 12 2822 (aS a 83 s)) 11 352 (aMin 200 (aS a 67 s - aS a 90 (7 * s + p)))).1 11 352 = aMin 200 (aS a 67 s - aS a 90 (7 * s + p)) := rfl
  have x12 : ∀ v, v < 7 → (setI (setI (setI (setI (setI (wrO σ 7 (aS a 53 s) (aS a 55 s) (aS a 57 s) (aS a 58 s)) 12 2819 (aS a 67 s)) 12 2820 (aS a 90 (7 * s + p))) 12 2821 (aMin 200 (aS a 67 s - aS a 90 (7 * s + p)))) 12 2822 (aS a 83 s)) 11 352 (aMin 200 (aS a 67 s - aS a 90 (7 * s + p)))).1 12 (2816 + v) = [aS a 55 s, aS a 57 s, aS a 58 s, aS a 67 s, aS a 90 (7 * s + p), aMin 200 (aS a 67 s - aS a 90 (7 * s + p)), aS a 83 s].getD v 0 := by
    intro v hv
    have : v = 0 ∨ v = 1 ∨ v = 2 ∨ v = 3 ∨ v = 4 ∨ v = 5 ∨ v = 6 := by omega
    rcases this with rfl | rfl | rfl | rfl | rfl | rfl | rfl <;> rfl
  generalize setI (setI (setI (setI (setI (wrO σ 7 (aS a 53 s) (aS a 55 s) (aS a 57 s) (aS a 58 s)) 12 2819 (aS a 67 s)) 12 2820 (aS a 90 (7 * s + p))) 12 2821 (aMin 200 (aS a 67 s - aS a 90 (7 * s + p)))) 12 2822 (aS a 83 s)) 11 352 (aMin 200 (aS a 67 s - aS a 90 (7 * s + p))) = σ2 at x8 x9 x10 x11 x12 h4
  have hsh := (h4.2.2.2.2.2.2.2.2.2.2.1 s hs).2
  have hl : N = 0 ∨ (o + N ≤ (aEnc (aSh a s)).length ∧ (aEnc (aSh a s)).length ≤ 13980 ∧ ∀ i, i < (aEnc (aSh a s)).length → σ2.1 66 (14000 * s + i) = (aEnc (aSh a s)).getD i 0) := by
    rcases hsh with ⟨z1, z2⟩ | ⟨z1, z2, z3⟩
    · left
      rw [z1, i_0] at N2
      omega
    · right
      rw [z1, Int32.toInt_ofNat_of_lt (by omega)] at N2
      exact ⟨by omega, z2, z3⟩
  have hlb : lBs (aAk a) (aPiece a s p) = ((aEnc (aSh a s)).drop o).take N := by
    show ((aEnc (aSh a s)).drop (aS a 90 (7 * s + p)).toNatClampNeg).take (aMin 200 (aS a 67 s - aS a 90 (7 * s + p))).toNatClampNeg = _
    rw [hO, eN, i_cl (by omega)]
  rw [eN] at x11 x12 ⊢
  refine sh_bytes hF hs (by omega) N1 h4 eo hl (fun τ t1 t2 t3 => ?_) F 0 σ2 (by omega) (Nat.zero_le _) SLf_refl ⟨fun _ _ => rfl, fun _ _ => rfl⟩ (fun y hy => absurd hy (Nat.not_lt_zero _))
  have hm : Mad (aAk a) τ (aPiece a s p) := by
    refine ⟨?_, ?_, ?_, Nat.zero_le _, ⟨wfS hs, Or.inl (ofs7 hp)⟩, ⟨N, by omega, ?_, ?_, fun i hi => absurd hi (Nat.not_lt_zero _)⟩, fun v x hv => ?_, fun i v hv => ?_, fun i hi => absurd hi (Nat.not_lt_zero _)⟩
    · rw [t2.1 8 (by decide)]
      exact x8
    · rw [t2.1 9 (by decide)]
      exact x9
    · rw [t2.1 10 (by decide)]
      exact x10
    · rw [t2.1 11 (by decide)]
      exact x11
    · rw [hlb, List.length_take]
      omega
    · rw [t2.1 12 (by decide)]
      match v, hv with
      | 0, hv => exact (x12 0 (by omega)).trans (Option.some.inj hv)
      | 1, hv => exact (x12 1 (by omega)).trans (Option.some.inj hv)
      | 2, hv => exact (x12 2 (by omega)).trans (Option.some.inj hv)
      | 3, hv => exact (x12 3 (by omega)).trans (Option.some.inj hv)
      | 4, hv => exact (x12 4 (by omega)).trans (Option.some.inj hv)
      | 5, hv => exact (x12 5 (by omega)).trans (eN.symm.trans (Option.some.inj hv))
      | 6, hv => exact (x12 6 (by omega)).trans (Option.some.inj hv)
      | v + 7, hv => exact absurd hv (by simp [lTd, aU, aLet, aPiece])
    · rw [hlb] at hv
      obtain ⟨hlt, _⟩ := List.getElem?_eq_some_iff.mp hv
      rw [List.length_take] at hlt
      rw [t3 i (by omega)]
      rw [List.getElem?_take_of_lt (by omega), List.getElem?_drop] at hv
      rw [List.getD_eq_getElem?_getD, hv]
      rfl
  exact WP_call (M_postM hF (RM_out h4 t1) hs hm rfl rfl) (fun τ3 h3 => WP_some h3)
