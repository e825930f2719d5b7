/-! the face: who is parted, a client gives up, a client's numbers -/
theorem K_asker {c : CS} {k : Nat} (hk : k < 8) : k_Face_asker c 0 (Int32.ofNat k) = some k := by
  unfold k_Face_asker k_Face_asker_b0
  rw [if_neg (fun z => i_nn (show k < 2147483648 by omega) (c0_lt.mp z)), if_pos (c2_lt.mpr (by
    rw [Int32.lt_iff_toInt_lt, Int32.toInt_ofNat_of_lt (by omega), show (8 : Int32).toInt = 8 by decide]
    omega)), show cix 15 3 (Int32.ofNat k) = some k from cix_n rfl (show k < 8 from hk) (by omega)]
  rfl
theorem inR_7 {x : Int32} (h : aInR x 0 7 = true) : ∃ k, k < 8 ∧ x = Int32.ofNat k := by
  unfold aInR at h
  rw [Bool.and_eq_true_iff, decide_eq_true_eq, decide_eq_true_eq, Int32.le_iff_toInt_le, Int32.le_iff_toInt_le, i_0, show (7 : Int32).toInt = 7 by decide] at h
  refine ⟨x.toInt.toNat, by omega, ?_⟩
  apply Int32.toInt_inj.mp
  rw [Int32.toInt_ofNat_of_lt (by omega)]
  omega
theorem K_partF {c : CS} {a : AA} {v : CV} {n : Int32} (h : RC c a v) (hn : aInR n 0 65535 = true) : WP (k_Face_part c 0 n) (fun p => RC p.2 (A_part a n).1 v ∧ p.1 = (A_part a n).2.2) := by
  have eA : A_part a n = (aI a 24 0 n, 0, aS a 24 0) := by
    unfold A_part
    rw [hn]
    rfl
  unfold aInR at hn
  rw [Bool.and_eq_true_iff, decide_eq_true_eq, decide_eq_true_eq, Int32.le_iff_toInt_le, Int32.le_iff_toInt_le, i_0, show (65535 : Int32).toInt = 65535 by decide] at hn
  unfold k_Face_part k_Face_part_b0
  rw [eA, if_neg (fun z => by
    have z := c0_lt.mp z
    rw [Int32.lt_iff_toInt_lt, i_0] at z
    omega), if_pos (c2_lt.mpr (by
    rw [Int32.lt_iff_toInt_lt, show (65536 : Int32).toInt = 65536 by decide]
    omega)), K_r h (F := 24) (cl := 14) (f := 5) (by decide) (by decide)]
  exact WP_b (WP_some ⟨RC_I h (F := 24) (cl := 14) (f := 5) (i := 0) (by decide) (by decide), rfl⟩)
theorem K_giveUpF {c : CS} {a : AA} {v : CV} {x : Int32} (h : RC c a v) (hx : aInR x 0 7 = true) (h124 : ∀ k, k < 8 → aS a 124 k = 0 ∨ aS a 124 k = 1) (hj : ∀ k, k < 8 → ¬ aS a 124 k = 0 → ∃ j, aS a 137 k = Int32.ofNat j ∧ j < (aAk a).length) : WP (k_Face_giveUp c 0 x) (fun p => RC p.2 (A_giveUp a x).1 v ∧ p.1 = (A_giveUp a x).2.2) := by
  obtain ⟨k, hk, e⟩ := inR_7 hx
  have ek : x.toNatClampNeg = k := by rw [e, i_cl (by omega)]
  have eA : A_giveUp a x = if aS a 124 k = 0 then (a, 0, 0) else (A_resign a k, 0, 1) := by
    unfold A_giveUp
    rw [hx, ek]
    rfl
  unfold k_Face_giveUp k_Face_giveUp_b0 k_Face_giveUp_b19
  rw [e, K_asker hk]
  rw [e] at eA
  refine WP_b ?_
  rw [K_r h (F := 124) (cl := 5) (f := 3) (by decide) hk, eA]
  refine WP_if c0_eq (fun z => ?_) (fun z => ?_)
  · have z : aS a 124 k = 0 := z
    rw [if_pos z, if_pos (Or.inl z)]
    exact WP_some ⟨h, z⟩
  · have z : ¬ aS a 124 k = 0 := z
    have z1 := (h124 k hk).resolve_left z
    obtain ⟨j, j1, j2⟩ := hj k hk z
    rw [if_neg z]
    refine WP_call (K_giveIn h hk z j1 j2) (fun c1 h1 => ?_)
    rw [if_pos (Or.inr z1)]
    exact WP_some ⟨h1, z1⟩
