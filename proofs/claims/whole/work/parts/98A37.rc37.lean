/-! what was asked -/
def kFld (K : List AK) (j f : Nat) : Int32 := let k := K.getD j (fun _ => 0, []); if f = 6 then Int32.ofNat (kOff K j) else if f = 9 then Int32.ofNat k.2.length else k.1 f
theorem K_tellA {c : CS} {a : AA} {v : CV} {j f : Nat} (h : RC c a v) (hj : j < (aAk a).length) (hf : f < 10) : k_Askings_tell c 0 (Int32.ofNat j) (Int32.ofNat f) = some (kFld (aAk a) j f) := by
  obtain ⟨e0, l1, _, l2, _, _, e4⟩ := h.2.2.2.2.2.2.2.2.2.2.2.2.2.2.2.1
  obtain ⟨f0, f6, f7, f8, f9, _⟩ := e4 j hj
  unfold k_Askings_tell k_Askings_tell_b0 k_Askings_tell_b12 k_Askings_tell_b27
  rw [if_neg (fun z => i_nn (show j < 2147483648 by omega) (c0_lt.mp z)), e0, if_pos (c2_lt.mpr (by rw [Int32.lt_iff_toInt_lt, Int32.toInt_ofNat_of_lt (by omega), Int32.toInt_ofNat_of_lt (by omega)]; omega)), show Int32.ofNat j * 10 + Int32.ofNat f = Int32.ofNat (10 * j + f) by rw [show (10 : Int32) = Int32.ofNat 10 from rfl, i_mc, i_ad, Nat.mul_comm], crd_n rfl (show 10 * j + f < cL c 4 0 2 by omega) (by omega)]
  show some (cI c 4 0 2 (10 * j + f)) = _
  unfold kFld
  dsimp only
  by_cases q6 : f = 6
  · rw [if_pos q6, q6, f6]
  · rw [if_neg q6]
    by_cases q9 : f = 9
    · rw [if_pos q9, q9, f9]
    · rw [if_neg q9]
      by_cases q7 : f = 7
      · rw [q7, f7]
      · by_cases q8 : f = 8
        · rw [q8, f8]
        · rw [f0 f (by omega)]
theorem kOff_le {K : List AK} {j : Nat} (hj : j < K.length) : kOff K j + (K.getD j (fun _ => 0, [])).2.length ≤ kOff K K.length := by
  have e : K = K.take j ++ K[j] :: K.drop (j + 1) := by
    rw [← List.drop_eq_getElem_cons hj, List.take_append_drop]
  have e2 : (K.map (fun k => k.2.length)).sum = ((K.take j ++ K[j] :: K.drop (j + 1)).map (fun k => k.2.length)).sum := by rw [← e]
  rw [List.map_append, List.map_cons, List.sum_append, List.sum_cons] at e2
  unfold kOff
  rw [List.take_length, e2, List.getD_eq_getElem?_getD, List.getElem?_eq_getElem hj]
  show ((K.take j).map (fun k => k.2.length)).sum + K[j].2.length ≤ _
  omega
theorem K_kAt {c : CS} {a : AA} {v : CV} {j m n : Nat} (h : RC c a v) (hj : j < (aAk a).length) (hm : m + n ≤ ((aAk a).getD j (fun _ => 0, [])).2.length) : kAt c (kOff (aAk a) j + m) ((((aAk a).getD j (fun _ => 0, [])).2.drop m).take n) := by
  obtain ⟨e0, l1, l4, l2, l3, l5, e4⟩ := h.2.2.2.2.2.2.2.2.2.2.2.2.2.2.2.1
  obtain ⟨_, _, _, _, _, fb⟩ := e4 j hj
  have hcap := h.2.2.2.2.2.2.2.2.2.2.2.2.2.2.2.2.2.2.2.2.1.2.2.2.2.2.2.1
  have ho := kOff_le hj
  have hlen : ((((aAk a).getD j (fun _ => 0, [])).2.drop m).take n).length = n := by
    rw [List.length_take, List.length_drop]
    omega
  have h232 : ((aAk a).getD j (fun _ => 0, [])).2.length ≤ 232 := by
    rw [List.getD_eq_getElem?_getD, List.getElem?_eq_getElem hj]
    exact l5 _ (List.getElem_mem _)
  refine ⟨by omega, by rw [hlen]; omega, by rw [hlen]; omega, fun i hi => ?_⟩
  rw [hlen] at hi
  rw [Nat.add_assoc, fb (m + i) (by omega)]
  generalize ((aAk a).getD j (fun _ => 0, [])).2 = B
  rw [List.getD_eq_getElem?_getD, List.getD_eq_getElem?_getD, List.getElem?_take, if_pos hi, List.getElem?_drop]
