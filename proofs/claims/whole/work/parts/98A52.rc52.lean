/-! room for bytes; a machine is saved -/
theorem cM_enc {M : AM} : (aEnc (cM M)).length = (aEnc M).length := by
  have p : ((cM M).1.flatMap sEnc).Perm (M.1.flatMap sEnc) := List.Perm.flatMap_right sEnc cM_perm
  have e4 : ∀ v : Int32, (a4 v).length = 4 := fun _ => rfl
  have e2 : (cM M).2 = M.2 := rfl
  rw [aEnc_e, aEnc_e, List.length_append, List.length_append, List.length_append, List.length_append, List.length_append, List.length_append, e4, e4, e4, e4, p.length_eq, e2]
/-- an array of bytes grew -/
def grP (cl i f k m : Nat) : Prop := (cl = 10 ∧ i < 7 ∧ f = 14 ∧ k = 1 ∧ m = 21000) ∨ (cl = 13 ∧ i < 7 ∧ f = 18 ∧ k = 2 ∧ m = 28400) ∨ (cl = 4 ∧ i = 0 ∧ f = 2 ∧ k = 4 ∧ m = 21000) ∨ (cl = 4 ∧ i = 0 ∧ f = 3 ∧ k = 4 ∧ m = 500000)
theorem gA_gr {c c' : CS} {cl i f k m L n : Nat} {w : Nat → Nat} (hp : grP cl i f k m) (e0 : cL c cl i f = L) (e1 : cL c' cl i f = n) (ho : ∀ a b x, ¬ (a = cl ∧ b = i ∧ x = f) → cL c' a b x = cL c a b x) : gA w c' + w k * L = gA w c + w k * n := by
  have h11 : cl ≠ 11 ∧ cl ≠ 14 := by rcases hp with z | z | z | z <;> omega
  unfold gA
  rw [sumN_eq (f := fun i => w 0 * cL c' 11 i 6 + w 0 * cL c' 11 i 7 + w 1 * cL c' 11 i 8) (g := fun i => w 0 * cL c 11 i 6 + w 0 * cL c 11 i 7 + w 1 * cL c 11 i 8) 210 (fun j _ => by rw [ho 11 j 6 (fun z => h11.1 z.1.symm), ho 11 j 7 (fun z => h11.1 z.1.symm), ho 11 j 8 (fun z => h11.1 z.1.symm)]), ho 14 0 15 (fun z => h11.2 z.1.symm), ho 14 0 16 (fun z => h11.2 z.1.symm)]
  rcases hp with ⟨rfl, hi, rfl, rfl, rfl⟩ | ⟨rfl, hi, rfl, rfl, rfl⟩ | ⟨rfl, rfl, rfl, rfl, rfl⟩ | ⟨rfl, rfl, rfl, rfl, rfl⟩
  · have h := sumN_upd (f := fun s => w 1 * cL c' 10 s 14 + w 2 * cL c' 13 s 18 + w 3 * cL c' 13 s 7) (g := fun s => w 1 * cL c 10 s 14 + w 2 * cL c 13 s 18 + w 3 * cL c 13 s 7) 7 hi (fun j _ hne => by
      rw [ho 10 j 14 (fun z => hne z.2.1), ho 13 j 18 (fun z => by omega), ho 13 j 7 (fun z => by omega)])
    simp only [e1, e0, ho 13 i 18 (fun z => by omega), ho 13 i 7 (fun z => by omega)] at h
    rw [ho 4 0 2 (fun z => by omega), ho 4 0 3 (fun z => by omega)]
    omega
  · have h := sumN_upd (f := fun s => w 1 * cL c' 10 s 14 + w 2 * cL c' 13 s 18 + w 3 * cL c' 13 s 7) (g := fun s => w 1 * cL c 10 s 14 + w 2 * cL c 13 s 18 + w 3 * cL c 13 s 7) 7 hi (fun j _ hne => by
      rw [ho 10 j 14 (fun z => by omega), ho 13 j 18 (fun z => hne z.2.1), ho 13 j 7 (fun z => by omega)])
    simp only [e1, e0, ho 10 i 14 (fun z => by omega), ho 13 i 7 (fun z => by omega)] at h
    rw [ho 4 0 2 (fun z => by omega), ho 4 0 3 (fun z => by omega)]
    omega
  · rw [sumN_eq (f := fun s => w 1 * cL c' 10 s 14 + w 2 * cL c' 13 s 18 + w 3 * cL c' 13 s 7) (g := fun s => w 1 * cL c 10 s 14 + w 2 * cL c 13 s 18 + w 3 * cL c 13 s 7) 7 (fun s _ => by rw [ho 10 s 14 (fun z => by omega), ho 13 s 18 (fun z => by omega), ho 13 s 7 (fun z => by omega)]), e0, e1, ho 4 0 3 (fun z => by omega)]
    omega
  · rw [sumN_eq (f := fun s => w 1 * cL c' 10 s 14 + w 2 * cL c' 13 s 18 + w 3 * cL c' 13 s 7) (g := fun s => w 1 * cL c 10 s 14 + w 2 * cL c 13 s 18 + w 3 * cL c 13 s 7) 7 (fun s _ => by rw [ho 10 s 14 (fun z => by omega), ho 13 s 18 (fun z => by omega), ho 13 s 7 (fun z => by omega)]), e0, e1, ho 4 0 2 (fun z => by omega)]
    omega
theorem KRm_gr {c c' : CS} {v : CV} {cl i f k m L n : Nat} (hp : grP cl i f k m) (e0 : cL c cl i f = L) (e1 : cL c' cl i f = n) (ho : ∀ a b x, ¬ (a = cl ∧ b = i ∧ x = f) → Sm c c' a b x) (eT : cT c' = ((cT c).1 + 1, (cT c).2 + n)) (h1 : 16 + gw1 k * L ≤ gw1 k * n) (h2 : n + gw2 k * L ≤ gw2 k * n) (hm : n ≤ m) (h : KRm c v) : KRm c' v := by
  have h11 : cl ≠ 11 ∧ cl ≠ 14 := by rcases hp with z | z | z | z <;> omega
  have h137 : ¬ (cl = 13 ∧ f = 7) := by rcases hp with z | z | z | z <;> omega
  obtain ⟨r1, r2, r3, r4⟩ := h
  have n1 : nL c' v.1.1 = nL c v.1.1 := by
    unfold nL
    rw [(ho 14 0 15 (fun z => h11.2 z.1.symm)).2.2.2, (ho 14 0 16 (fun z => h11.2 z.1.symm)).2.2.2, sumN_eq (f := fun s => (cS c' 13 s 7).length) (g := fun s => (cS c 13 s 7).length) 7 (fun s _ => by rw [(ho 13 s 7 (fun z => h137 ⟨z.1.symm, z.2.2.symm⟩)).2.2.2])]
  have g1 := gA_gr (w := gw1) hp e0 e1 (fun a b x z => (ho a b x z).2.2.1)
  have g2 := gA_gr (w := gw2) hp e0 e1 (fun a b x z => (ho a b x z).2.2.1)
  obtain ⟨c1, c2, c3, c4, c5, c6⟩ := r4
  refine ⟨?_, ?_, by rw [n1]; exact r3, fun j hj => ?_, fun s hs => ⟨?_, ?_, ?_⟩, ?_, ?_, ?_, ?_⟩
  · rw [eT, n1]
    show 16 * ((cT c).1 + 1) ≤ _
    omega
  · rw [eT, n1]
    show (cT c).2 + n ≤ _
    omega
  · rw [(ho 11 j 6 (fun z => h11.1 z.1.symm)).2.2.1, (ho 11 j 7 (fun z => h11.1 z.1.symm)).2.2.1, (ho 11 j 8 (fun z => h11.1 z.1.symm)).2.2.1]
    exact c1 j hj
  · by_cases q : 10 = cl ∧ s = i ∧ 14 = f
    · rw [q.1, q.2.1, q.2.2, e1]
      rcases hp with z | z | z | z <;> omega
    · rw [(ho 10 s 14 q).2.2.1]
      exact (c2 s hs).1
  · by_cases q : 13 = cl ∧ s = i ∧ 18 = f
    · rw [q.1, q.2.1, q.2.2, e1]
      rcases hp with z | z | z | z <;> omega
    · rw [(ho 13 s 18 q).2.2.1]
      exact (c2 s hs).2.1
  · rw [(ho 13 s 7 (fun z => h137 ⟨z.1.symm, z.2.2.symm⟩)).2.2.1]
    exact (c2 s hs).2.2
  · by_cases q : 4 = cl ∧ 0 = i ∧ 2 = f
    · rw [q.1, q.2.1, q.2.2, e1]
      rcases hp with z | z | z | z <;> omega
    · rw [(ho 4 0 2 q).2.2.1]
      exact c3
  · by_cases q : 4 = cl ∧ 0 = i ∧ 3 = f
    · rw [q.1, q.2.1, q.2.2, e1]
      rcases hp with z | z | z | z <;> omega
    · rw [(ho 4 0 3 q).2.2.1]
      exact c4
  · rw [(ho 14 0 15 (fun z => h11.2 z.1.symm)).2.2.1]
    exact c5
  · rw [(ho 14 0 16 (fun z => h11.2 z.1.symm)).2.2.1]
    exact c6
/-- what was saved so far -/
def Wk (s : Nat) (c c' : CS) (l : List Int32) : Prop := PX 10 s [14] c c' ∧ l.length ≤ cL c 10 s 14 ∧ ∀ i, i < l.length → cI c' 10 s 14 i = l.getD i 0
theorem getD_s {l : List Int32} {x : Int32} {i : Nat} : (l ++ [x]).getD i 0 = if i = l.length then x else l.getD i 0 := by
  rw [getD_ap]
  by_cases q : i < l.length
  · rw [if_pos q, if_neg (by omega)]
  · rw [if_neg q]
    by_cases z : i = l.length
    · rw [if_pos z, z, Nat.sub_self]
      rfl
    · rw [if_neg z, List.getD_eq_getElem?_getD, List.getD_eq_getElem?_getD, List.getElem?_eq_none (by rw [List.length_singleton]; omega), List.getElem?_eq_none (by omega)]
theorem Wk_b {s : Nat} {c c1 : CS} {l : List Int32} {x p : Int32} (h : Wk s c c1 l) (hl : l.length < cL c 10 s 14) (hL : cL c 10 s 14 ≤ 21000) (hp : p = Int32.ofNat l.length) : cwr c1 10 s 14 p x = some (csI c1 10 s 14 l.length x) ∧ Wk s c (csI c1 10 s 14 l.length x) (l ++ [x]) := by
  obtain ⟨P, h1, h2⟩ := h
  have hc : cL c1 10 s 14 = cL c 10 s 14 := PX_cL P
  refine ⟨cwr_n hp (show l.length < cL c1 10 s 14 by omega) (by omega), PX_t P (PX_I (by decide)), by rw [List.length_append, List.length_singleton]; omega, fun i hi => ?_⟩
  rw [List.length_append, List.length_singleton] at hi
  rw [getD_s]
  by_cases q : i = l.length
  · rw [if_pos q, q, csI_e]
  · rw [if_neg q, csI_j q]
    exact h2 i (by omega)
theorem Wk_c {s f q : Nat} {c c1 : CS} {l w : List Int32} {x y z : Int32} (h : Wk s c c1 l) (hl : l.length + w.length ≤ cL c 10 s 14) (hL : cL c 10 s 14 ≤ 21000) (hf : f ≠ 14) (hq : q + w.length ≤ cal c1 10 s f) (hq2 : q < 100000) (hw : ∀ j, j < w.length → cI c 10 s f (q + j) = w.getD j 0) (hx : x = Int32.ofNat q) (hy : y = Int32.ofNat l.length) (hz : z = Int32.ofNat w.length) : WP (ccpy c1 10 s f x 10 s 14 y z) (fun c' => Wk s c c' (l ++ w)) := by
  obtain ⟨P, h1, h2⟩ := h
  have hc : cL c1 10 s 14 = cL c 10 s 14 := PX_cL P
  refine ⟨_, ccpy_n (s := q) (t := l.length) (n := w.length) hx hy hz hq (show l.length + w.length ≤ cL c1 10 s 14 by omega) (by omega) (by omega), PX_t P (PX_A (by decide)), by rw [List.length_append]; exact hl, fun i hi => ?_⟩
  rw [List.length_append] at hi
  rw [cI_A, getD_ap]
  by_cases q1 : i < l.length
  · rw [if_neg (by omega), if_pos q1]
    exact h2 i q1
  · rw [if_pos (by omega), if_neg q1, PX_o P (by simpa using hf)]
    exact hw _ (by omega)
theorem Wk_len {s : Nat} {c c1 : CS} {l l2 : List Int32} (h : Wk s c c1 l) (e : l = l2) : Wk s c c1 l2 := e ▸ h
theorem sv_b {v x : Int32} : (((v >>> x).toInt8.toInt32).toInt8.toInt32) = aLow8 (v >>> x) := aLow8_i
theorem K_svN {F s : Nat} {c c1 : CS} {l : List Int32} {v : Int32} (hF : 5 ≤ F) (h : Wk s c c1 l) (hl : l.length + 4 ≤ cL c 10 s 14) (hL : cL c 10 s 14 ≤ 21000) : WP (k_Machine_saveNumber F c1 s (Int32.ofNat l.length) v) (fun p => p.1 = Int32.ofNat (l ++ a4 v).length ∧ Wk s c p.2 (l ++ a4 v)) := by
  obtain ⟨k, rfl⟩ : ∃ k, F = k + 5 := ⟨F - 5, by omega⟩
  unfold k_Machine_saveNumber k_Machine_saveNumber_b0
  unfold k_Machine_saveNumber_b2
  dsimp only
  rw [if_neg (show ¬ xc2 .ge (0 : Int32) 4 = true by decide), show ((24 : Int32) - (8 * 0)) &&& 31 = 24 by decide, sv_b]
  obtain ⟨e1, w1⟩ := Wk_b (x := aLow8 (v >>> 24)) (p := Int32.ofNat l.length + 0) h (by omega) hL (i_ad (s := 0))
  refine WP_eq e1 ?_
  unfold k_Machine_saveNumber_b2
  dsimp only
  rw [show (0 : Int32) + 1 = 1 by decide, if_neg (show ¬ xc2 .ge (1 : Int32) 4 = true by decide), show ((24 : Int32) - (8 * 1)) &&& 31 = 16 by decide, sv_b]
  obtain ⟨e2, w2⟩ := Wk_b (x := aLow8 (v >>> 16)) (p := Int32.ofNat l.length + 1) w1 (by rw [List.length_append, List.length_singleton]; omega) hL (by rw [List.length_append, List.length_singleton]; exact i_ad (s := 1))
  refine WP_eq e2 ?_
  unfold k_Machine_saveNumber_b2
  dsimp only
  rw [show (1 : Int32) + 1 = 2 by decide, if_neg (show ¬ xc2 .ge (2 : Int32) 4 = true by decide), show ((24 : Int32) - (8 * 2)) &&& 31 = 8 by decide, sv_b]
  obtain ⟨e3, w3⟩ := Wk_b (x := aLow8 (v >>> 8)) (p := Int32.ofNat l.length + 2) w2 (by rw [List.length_append, List.length_append, List.length_singleton, List.length_singleton]; omega) hL (by rw [List.length_append, List.length_append, List.length_singleton, List.length_singleton]; exact i_ad (s := 2))
  refine WP_eq e3 ?_
  unfold k_Machine_saveNumber_b2
  dsimp only
  rw [show (2 : Int32) + 1 = 3 by decide, if_neg (show ¬ xc2 .ge (3 : Int32) 4 = true by decide), show ((24 : Int32) - (8 * 3)) &&& 31 = 0 by decide, sv_b]
  obtain ⟨e4, w4⟩ := Wk_b (x := aLow8 (v >>> 0)) (p := Int32.ofNat l.length + 3) w3 (by rw [List.length_append, List.length_append, List.length_append, List.length_singleton, List.length_singleton, List.length_singleton]; omega) hL (by rw [List.length_append, List.length_append, List.length_append, List.length_singleton, List.length_singleton, List.length_singleton]; exact i_ad (s := 3))
  refine WP_eq e4 ?_
  unfold k_Machine_saveNumber_b2
  dsimp only
  rw [show (3 : Int32) + 1 = 4 by decide, if_pos (show xc2 .ge (4 : Int32) 4 = true by decide)]
  have ev : v >>> (0 : Int32) = v := Int32.shiftRight_zero
  have ea : (((l ++ [aLow8 (v >>> 24)]) ++ [aLow8 (v >>> 16)]) ++ [aLow8 (v >>> 8)]) ++ [aLow8 (v >>> 0)] = l ++ a4 v := by
    rw [ev, List.append_assoc, List.append_assoc, List.append_assoc]
    rfl
  refine WP_some ⟨?_, Wk_len w4 ea⟩
  show Int32.ofNat l.length + 4 = Int32.ofNat (l ++ a4 v).length
  rw [List.length_append]
  exact i_ad (s := 4)
