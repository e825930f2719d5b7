/-! every cell of a new store is the class's memory's (printed by wip/whole/gen_c0b.py) -/
def xeqv (x y : xC) : Prop := x.1 = y.1 ∧ x.2.1 = y.2.1 ∧ (x.1 ≤ 17 → (xCl (x.1 - 1)).2.2 ≤ x.2.1) ∧ ∀ j, j < x.2.1 → x.2.2 j = y.2.2 j
section CQ
variable {B eD : Nat} {X : Nat → Option xC} {I : Int32} {J : Int64} {T : Nat × Nat} {m : Int32} {i : Nat}
theorem oc_3_2 : (ocell 3).2.2 2 = Value.int 0 := by
  show (match xfty 3 2 with
    | some ty => defaultValue ty
    | none => Value.null) = _
  rw [show xfty 3 2 = some .int from by decide +kernel]
  rfl
theorem oc_4_0 : (ocell 4).2.2 0 = Value.int 0 := by
  show (match xfty 4 0 with
    | some ty => defaultValue ty
    | none => Value.null) = _
  rw [show xfty 4 0 = some .int from by decide +kernel]
  rfl
theorem oc_4_1 : (ocell 4).2.2 1 = Value.int 0 := by
  show (match xfty 4 1 with
    | some ty => defaultValue ty
    | none => Value.null) = _
  rw [show xfty 4 1 = some .int from by decide +kernel]
  rfl
theorem oc_4_4 : (ocell 4).2.2 4 = Value.int 0 := by
  show (match xfty 4 4 with
    | some ty => defaultValue ty
    | none => Value.null) = _
  rw [show xfty 4 4 = some .int from by decide +kernel]
  rfl
theorem oc_5_3 : (ocell 5).2.2 3 = Value.int 0 := by
  show (match xfty 5 3 with
    | some ty => defaultValue ty
    | none => Value.null) = _
  rw [show xfty 5 3 = some .boolean from by decide +kernel]
  rfl
theorem oc_5_4 : (ocell 5).2.2 4 = Value.int 0 := by
  show (match xfty 5 4 with
    | some ty => defaultValue ty
    | none => Value.null) = _
  rw [show xfty 5 4 = some .int from by decide +kernel]
  rfl
theorem oc_5_6 : (ocell 5).2.2 6 = Value.int 0 := by
  show (match xfty 5 6 with
    | some ty => defaultValue ty
    | none => Value.null) = _
  rw [show xfty 5 6 = some .int from by decide +kernel]
  rfl
theorem oc_5_7 : (ocell 5).2.2 7 = Value.int 0 := by
  show (match xfty 5 7 with
    | some ty => defaultValue ty
    | none => Value.null) = _
  rw [show xfty 5 7 = some .int from by decide +kernel]
  rfl
theorem oc_5_8 : (ocell 5).2.2 8 = Value.int 0 := by
  show (match xfty 5 8 with
    | some ty => defaultValue ty
    | none => Value.null) = _
  rw [show xfty 5 8 = some .int from by decide +kernel]
  rfl
theorem oc_5_10 : (ocell 5).2.2 10 = Value.int 0 := by
  show (match xfty 5 10 with
    | some ty => defaultValue ty
    | none => Value.null) = _
  rw [show xfty 5 10 = some .boolean from by decide +kernel]
  rfl
theorem oc_5_11 : (ocell 5).2.2 11 = Value.int 0 := by
  show (match xfty 5 11 with
    | some ty => defaultValue ty
    | none => Value.null) = _
  rw [show xfty 5 11 = some .boolean from by decide +kernel]
  rfl
theorem oc_5_13 : (ocell 5).2.2 13 = Value.int 0 := by
  show (match xfty 5 13 with
    | some ty => defaultValue ty
    | none => Value.null) = _
  rw [show xfty 5 13 = some .int from by decide +kernel]
  rfl
theorem oc_6_5 : (ocell 6).2.2 5 = Value.int 0 := by
  show (match xfty 6 5 with
    | some ty => defaultValue ty
    | none => Value.null) = _
  rw [show xfty 6 5 = some .int from by decide +kernel]
  rfl
theorem oc_6_7 : (ocell 6).2.2 7 = Value.int 0 := by
  show (match xfty 6 7 with
    | some ty => defaultValue ty
    | none => Value.null) = _
  rw [show xfty 6 7 = some .boolean from by decide +kernel]
  rfl
theorem oc_6_8 : (ocell 6).2.2 8 = Value.int 0 := by
  show (match xfty 6 8 with
    | some ty => defaultValue ty
    | none => Value.null) = _
  rw [show xfty 6 8 = some .int from by decide +kernel]
  rfl
theorem oc_7_8 : (ocell 7).2.2 8 = Value.int 0 := by
  show (match xfty 7 8 with
    | some ty => defaultValue ty
    | none => Value.null) = _
  rw [show xfty 7 8 = some .int from by decide +kernel]
  rfl
theorem oc_7_9 : (ocell 7).2.2 9 = Value.int 0 := by
  show (match xfty 7 9 with
    | some ty => defaultValue ty
    | none => Value.null) = _
  rw [show xfty 7 9 = some .int from by decide +kernel]
  rfl
theorem oc_7_11 : (ocell 7).2.2 11 = Value.int 0 := by
  show (match xfty 7 11 with
    | some ty => defaultValue ty
    | none => Value.null) = _
  rw [show xfty 7 11 = some .int from by decide +kernel]
  rfl
theorem oc_9_3 : (ocell 9).2.2 3 = Value.int 0 := by
  show (match xfty 9 3 with
    | some ty => defaultValue ty
    | none => Value.null) = _
  rw [show xfty 9 3 = some .int from by decide +kernel]
  rfl
theorem oc_9_4 : (ocell 9).2.2 4 = Value.int 0 := by
  show (match xfty 9 4 with
    | some ty => defaultValue ty
    | none => Value.null) = _
  rw [show xfty 9 4 = some .int from by decide +kernel]
  rfl
theorem oc_9_6 : (ocell 9).2.2 6 = Value.int 0 := by
  show (match xfty 9 6 with
    | some ty => defaultValue ty
    | none => Value.null) = _
  rw [show xfty 9 6 = some .int from by decide +kernel]
  rfl
theorem oc_9_8 : (ocell 9).2.2 8 = Value.int 0 := by
  show (match xfty 9 8 with
    | some ty => defaultValue ty
    | none => Value.null) = _
  rw [show xfty 9 8 = some .int from by decide +kernel]
  rfl
theorem oc_9_9 : (ocell 9).2.2 9 = Value.int 0 := by
  show (match xfty 9 9 with
    | some ty => defaultValue ty
    | none => Value.null) = _
  rw [show xfty 9 9 = some .int from by decide +kernel]
  rfl
theorem oc_9_10 : (ocell 9).2.2 10 = Value.int 0 := by
  show (match xfty 9 10 with
    | some ty => defaultValue ty
    | none => Value.null) = _
  rw [show xfty 9 10 = some .int from by decide +kernel]
  rfl
theorem oc_9_11 : (ocell 9).2.2 11 = Value.int 0 := by
  show (match xfty 9 11 with
    | some ty => defaultValue ty
    | none => Value.null) = _
  rw [show xfty 9 11 = some .int from by decide +kernel]
  rfl
theorem oc_10_1 : (ocell 10).2.2 1 = Value.int 0 := by
  show (match xfty 10 1 with
    | some ty => defaultValue ty
    | none => Value.null) = _
  rw [show xfty 10 1 = some .int from by decide +kernel]
  rfl
theorem oc_10_4 : (ocell 10).2.2 4 = Value.int 0 := by
  show (match xfty 10 4 with
    | some ty => defaultValue ty
    | none => Value.null) = _
  rw [show xfty 10 4 = some .int from by decide +kernel]
  rfl
theorem oc_10_5 : (ocell 10).2.2 5 = Value.int 0 := by
  show (match xfty 10 5 with
    | some ty => defaultValue ty
    | none => Value.null) = _
  rw [show xfty 10 5 = some .int from by decide +kernel]
  rfl
theorem oc_10_11 : (ocell 10).2.2 11 = Value.int 0 := by
  show (match xfty 10 11 with
    | some ty => defaultValue ty
    | none => Value.null) = _
  rw [show xfty 10 11 = some .int from by decide +kernel]
  rfl
theorem oc_10_12 : (ocell 10).2.2 12 = Value.int 0 := by
  show (match xfty 10 12 with
    | some ty => defaultValue ty
    | none => Value.null) = _
  rw [show xfty 10 12 = some .int from by decide +kernel]
  rfl
theorem oc_10_13 : (ocell 10).2.2 13 = Value.int 0 := by
  show (match xfty 10 13 with
    | some ty => defaultValue ty
    | none => Value.null) = _
  rw [show xfty 10 13 = some .int from by decide +kernel]
  rfl
theorem oc_11_0 : (ocell 11).2.2 0 = Value.int 0 := by
  show (match xfty 11 0 with
    | some ty => defaultValue ty
    | none => Value.null) = _
  rw [show xfty 11 0 = some .boolean from by decide +kernel]
  rfl
theorem oc_11_1 : (ocell 11).2.2 1 = Value.int 0 := by
  show (match xfty 11 1 with
    | some ty => defaultValue ty
    | none => Value.null) = _
  rw [show xfty 11 1 = some .int from by decide +kernel]
  rfl
theorem oc_11_2 : (ocell 11).2.2 2 = Value.int 0 := by
  show (match xfty 11 2 with
    | some ty => defaultValue ty
    | none => Value.null) = _
  rw [show xfty 11 2 = some .int from by decide +kernel]
  rfl
theorem oc_11_3 : (ocell 11).2.2 3 = Value.int 0 := by
  show (match xfty 11 3 with
    | some ty => defaultValue ty
    | none => Value.null) = _
  rw [show xfty 11 3 = some .int from by decide +kernel]
  rfl
theorem oc_11_4 : (ocell 11).2.2 4 = Value.int 0 := by
  show (match xfty 11 4 with
    | some ty => defaultValue ty
    | none => Value.null) = _
  rw [show xfty 11 4 = some .int from by decide +kernel]
  rfl
theorem oc_11_5 : (ocell 11).2.2 5 = Value.int 0 := by
  show (match xfty 11 5 with
    | some ty => defaultValue ty
    | none => Value.null) = _
  rw [show xfty 11 5 = some .int from by decide +kernel]
  rfl
theorem oc_11_9 : (ocell 11).2.2 9 = Value.int 0 := by
  show (match xfty 11 9 with
    | some ty => defaultValue ty
    | none => Value.null) = _
  rw [show xfty 11 9 = some .int from by decide +kernel]
  rfl
theorem oc_12_7 : (ocell 12).2.2 7 = Value.int 0 := by
  show (match xfty 12 7 with
    | some ty => defaultValue ty
    | none => Value.null) = _
  rw [show xfty 12 7 = some .int from by decide +kernel]
  rfl
theorem oc_12_8 : (ocell 12).2.2 8 = Value.int 0 := by
  show (match xfty 12 8 with
    | some ty => defaultValue ty
    | none => Value.null) = _
  rw [show xfty 12 8 = some .int from by decide +kernel]
  rfl
theorem oc_13_9 : (ocell 13).2.2 9 = Value.int 0 := by
  show (match xfty 13 9 with
    | some ty => defaultValue ty
    | none => Value.null) = _
  rw [show xfty 13 9 = some .boolean from by decide +kernel]
  rfl
theorem oc_13_10 : (ocell 13).2.2 10 = Value.int 0 := by
  show (match xfty 13 10 with
    | some ty => defaultValue ty
    | none => Value.null) = _
  rw [show xfty 13 10 = some .int from by decide +kernel]
  rfl
theorem oc_13_12 : (ocell 13).2.2 12 = Value.int 0 := by
  show (match xfty 13 12 with
    | some ty => defaultValue ty
    | none => Value.null) = _
  rw [show xfty 13 12 = some .int from by decide +kernel]
  rfl
theorem oc_13_15 : (ocell 13).2.2 15 = Value.int 0 := by
  show (match xfty 13 15 with
    | some ty => defaultValue ty
    | none => Value.null) = _
  rw [show xfty 13 15 = some .int from by decide +kernel]
  rfl
theorem oc_13_17 : (ocell 13).2.2 17 = Value.int 0 := by
  show (match xfty 13 17 with
    | some ty => defaultValue ty
    | none => Value.null) = _
  rw [show xfty 13 17 = some .int from by decide +kernel]
  rfl
theorem oc_13_19 : (ocell 13).2.2 19 = Value.int 0 := by
  show (match xfty 13 19 with
    | some ty => defaultValue ty
    | none => Value.null) = _
  rw [show xfty 13 19 = some .int from by decide +kernel]
  rfl
theorem oc_14_0 : (ocell 14).2.2 0 = Value.int 0 := by
  show (match xfty 14 0 with
    | some ty => defaultValue ty
    | none => Value.null) = _
  rw [show xfty 14 0 = some .int from by decide +kernel]
  rfl
theorem oc_14_1 : (ocell 14).2.2 1 = Value.int 0 := by
  show (match xfty 14 1 with
    | some ty => defaultValue ty
    | none => Value.null) = _
  rw [show xfty 14 1 = some .int from by decide +kernel]
  rfl
theorem oc_14_2 : (ocell 14).2.2 2 = Value.int 0 := by
  show (match xfty 14 2 with
    | some ty => defaultValue ty
    | none => Value.null) = _
  rw [show xfty 14 2 = some .int from by decide +kernel]
  rfl
theorem oc_14_3 : (ocell 14).2.2 3 = Value.int 0 := by
  show (match xfty 14 3 with
    | some ty => defaultValue ty
    | none => Value.null) = _
  rw [show xfty 14 3 = some .int from by decide +kernel]
  rfl
theorem oc_14_4 : (ocell 14).2.2 4 = Value.int 0 := by
  show (match xfty 14 4 with
    | some ty => defaultValue ty
    | none => Value.null) = _
  rw [show xfty 14 4 = some .int from by decide +kernel]
  rfl
theorem oc_14_5 : (ocell 14).2.2 5 = Value.int 0 := by
  show (match xfty 14 5 with
    | some ty => defaultValue ty
    | none => Value.null) = _
  rw [show xfty 14 5 = some .int from by decide +kernel]
  rfl
theorem oc_14_6 : (ocell 14).2.2 6 = Value.int 0 := by
  show (match xfty 14 6 with
    | some ty => defaultValue ty
    | none => Value.null) = _
  rw [show xfty 14 6 = some .int from by decide +kernel]
  rfl
theorem oc_14_7 : (ocell 14).2.2 7 = Value.int 0 := by
  show (match xfty 14 7 with
    | some ty => defaultValue ty
    | none => Value.null) = _
  rw [show xfty 14 7 = some .int from by decide +kernel]
  rfl
theorem oc_14_8 : (ocell 14).2.2 8 = Value.int 0 := by
  show (match xfty 14 8 with
    | some ty => defaultValue ty
    | none => Value.null) = _
  rw [show xfty 14 8 = some .int from by decide +kernel]
  rfl
theorem oc_14_9 : (ocell 14).2.2 9 = Value.long 0 := by
  show (match xfty 14 9 with
    | some ty => defaultValue ty
    | none => Value.null) = _
  rw [show xfty 14 9 = some .long from by decide +kernel]
  rfl
theorem oc_15_5 : (ocell 15).2.2 5 = Value.int 0 := by
  show (match xfty 15 5 with
    | some ty => defaultValue ty
    | none => Value.null) = _
  rw [show xfty 15 5 = some .int from by decide +kernel]
  rfl
theorem oc_15_7 : (ocell 15).2.2 7 = Value.int 0 := by
  show (match xfty 15 7 with
    | some ty => defaultValue ty
    | none => Value.null) = _
  rw [show xfty 15 7 = some .int from by decide +kernel]
  rfl
theorem stT_int (J : Int64) : ∀ k j, stT J k j = .int (vI (stT J k j))
  | 0, j => by
    show bfl (fun _ => .int 0) (-1) 23 j = .int (vI (bfl (fun _ => .int 0) (-1) 23 j))
    unfold bfl
    split <;> rfl
  | k + 1, j => by
    show (if j = k then _ else stT J k j) = .int (vI (if j = k then _ else stT J k j))
    split
    · rfl
    · exact stT_int J k j
theorem stO_int : ∀ k j, stO k j = .int (vI (stO k j))
  | 0, _ => rfl
  | k + 1, j => by
    show (if j = k then _ else stO k j) = .int (vI (if j = k then _ else stO k j))
    split
    · rfl
    · exact stO_int k j
theorem stS_long (J : Int64) : ∀ k j, j < 7 → stS J k j = .long (vJ (stS J k j))
  | 0, j, h => by
    show ldf J 7 j = .long (vJ (ldf J 7 j))
    unfold ldf
    rw [if_pos h]
    rfl
  | k + 1, j, h => by
    show (if j = k then _ else stS J k j) = .long (vJ (if j = k then _ else stS J k j))
    split
    · rfl
    · exact stS_long J k j h
set_option maxRecDepth 100000 in
theorem oe13 : xeqv ((c140_F (B + (16 + 158 * i)) eD (Int32.ofNat i) m (B + 5) (B + 13)).getD 0 zc) (ccell (cE0 B eD X) (cAA B) (c0 m J T) (0, 13, i, 0)) := by
  refine ⟨rfl, rfl, fun _ => Nat.le_refl _, fun j hj => ?_⟩
  have hj : j < 20 := hj
  match j, hj with
  | 0, _ => rfl
  | 1, _ => rfl
  | 2, _ => rfl
  | 3, _ => rfl
  | 4, _ => rfl
  | 5, _ => rfl
  | 6, _ => rfl
  | 7, _ => rfl
  | 8, _ => rfl
  | 9, _ => exact oc_13_9
  | 10, _ => exact oc_13_10
  | 11, _ => rfl
  | 12, _ => exact oc_13_12
  | 13, _ => rfl
  | 14, _ => rfl
  | 15, _ => exact oc_13_15
  | 16, _ => rfl
  | 17, _ => exact oc_13_17
  | 18, _ => rfl
  | 19, _ => exact oc_13_19
  | q + 20, h => exact absurd h (by omega)
set_option maxRecDepth 100000 in
theorem oe6 : xeqv ((c40_hd ((B + (16 + 158 * i)) + 1) 16 16).getD 0 zc) (ccell (cE0 B eD X) (cAA B) (c0 m J T) (0, 6, i, 0)) := by
  refine ⟨rfl, rfl, fun _ => Nat.le_refl _, fun j hj => ?_⟩
  have hj : j < 10 := hj
  match j, hj with
  | 0, _ => rfl
  | 1, _ => rfl
  | 2, _ => rfl
  | 3, _ => rfl
  | 4, _ => rfl
  | 5, _ => exact oc_6_5
  | 6, _ => rfl
  | 7, _ => exact oc_6_7
  | 8, _ => exact oc_6_8
  | 9, _ => rfl
  | q + 10, h => exact absurd h (by omega)
set_option maxRecDepth 100000 in
theorem oe7 : xeqv ((c55_F ((B + (16 + 158 * i)) + 127)).getD 0 zc) (ccell (cE0 B eD X) (cAA B) (c0 m J T) (0, 7, i, 0)) := by
  refine ⟨rfl, rfl, fun _ => Nat.le_refl _, fun j hj => ?_⟩
  have hj : j < 12 := hj
  match j, hj with
  | 0, _ => rfl
  | 1, _ => rfl
  | 2, _ => rfl
  | 3, _ => rfl
  | 4, _ => rfl
  | 5, _ => rfl
  | 6, _ => rfl
  | 7, _ => rfl
  | 8, _ => exact oc_7_8
  | 9, _ => exact oc_7_9
  | 10, _ => rfl
  | 11, _ => exact oc_7_11
  | q + 12, h => exact absurd h (by omega)
set_option maxRecDepth 100000 in
theorem oe12 : xeqv ((c118_F ((B + (16 + 158 * i)) + 136)).getD 0 zc) (ccell (cE0 B eD X) (cAA B) (c0 m J T) (0, 12, i, 0)) := by
  refine ⟨rfl, rfl, fun _ => Nat.le_refl _, fun j hj => ?_⟩
  have hj : j < 9 := hj
  match j, hj with
  | 0, _ => rfl
  | 1, _ => rfl
  | 2, _ => rfl
  | 3, _ => rfl
  | 4, _ => rfl
  | 5, _ => rfl
  | 6, _ => rfl
  | 7, _ => exact oc_12_7
  | 8, _ => exact oc_12_8
  | q + 9, h => exact absurd h (by omega)
set_option maxRecDepth 100000 in
theorem oe9 : xeqv ((c68_F ((B + (16 + 158 * i)) + 146) m).getD 0 zc) (ccell (cE0 B eD X) (cAA B) (c0 m J T) (0, 9, i, 0)) := by
  refine ⟨rfl, rfl, fun _ => Nat.le_refl _, fun j hj => ?_⟩
  have hj : j < 12 := hj
  match j, hj with
  | 0, _ => rfl
  | 1, _ => rfl
  | 2, _ => rfl
  | 3, _ => exact oc_9_3
  | 4, _ => exact oc_9_4
  | 5, _ => rfl
  | 6, _ => exact oc_9_6
  | 7, _ => rfl
  | 8, _ => exact oc_9_8
  | 9, _ => exact oc_9_9
  | 10, _ => exact oc_9_10
  | 11, _ => exact oc_9_11
  | q + 12, h => exact absurd h (by omega)
set_option maxRecDepth 100000 in
theorem oe10 : xeqv ((c84_S ((B + (16 + 158 * i)) + 149) (B + 13) 128).getD 0 zc) (ccell (cE0 B eD X) (cAA B) (c0 m J T) (0, 10, i, 0)) := by
  refine ⟨rfl, rfl, fun _ => Nat.le_refl _, fun j hj => ?_⟩
  have hj : j < 15 := hj
  match j, hj with
  | 0, _ => rfl
  | 1, _ => exact oc_10_1
  | 2, _ => rfl
  | 3, _ => rfl
  | 4, _ => exact oc_10_4
  | 5, _ => exact oc_10_5
  | 6, _ => rfl
  | 7, _ => rfl
  | 8, _ => rfl
  | 9, _ => rfl
  | 10, _ => rfl
  | 11, _ => exact oc_10_11
  | 12, _ => exact oc_10_12
  | 13, _ => exact oc_10_13
  | 14, _ => rfl
  | q + 15, h => exact absurd h (by omega)
set_option maxRecDepth 100000 in
theorem oe5 : xeqv ((c26_F (B + (1122 + 2 * i)) ((8 : Int32) + Int32.ofNat i) (B + 5) (B + 13)).getD 0 zc) (ccell (cE0 B eD X) (cAA B) (c0 m J T) (0, 5, i, 0)) := by
  refine ⟨rfl, rfl, fun _ => Nat.le_refl _, fun j hj => ?_⟩
  have hj : j < 14 := hj
  match j, hj with
  | 0, _ => rfl
  | 1, _ => rfl
  | 2, _ => rfl
  | 3, _ => exact oc_5_3
  | 4, _ => exact oc_5_4
  | 5, _ => rfl
  | 6, _ => exact oc_5_6
  | 7, _ => exact oc_5_7
  | 8, _ => exact oc_5_8
  | 9, _ => rfl
  | 10, _ => exact oc_5_10
  | 11, _ => exact oc_5_11
  | 12, _ => rfl
  | 13, _ => exact oc_5_13
  | q + 14, h => exact absurd h (by omega)
set_option maxRecDepth 100000 in
theorem oe4 : xeqv ((c17_F (B + 13)).getD 0 zc) (ccell (cE0 B eD X) (cAA B) (c0 m J T) (0, 4, 0, 0)) := by
  refine ⟨rfl, rfl, fun _ => Nat.le_refl _, fun j hj => ?_⟩
  have hj : j < 5 := hj
  match j, hj with
  | 0, _ => exact oc_4_0
  | 1, _ => exact oc_4_1
  | 2, _ => rfl
  | 3, _ => rfl
  | 4, _ => exact oc_4_4
  | q + 5, h => exact absurd h (by omega)
set_option maxRecDepth 100000 in
theorem oe15 : xeqv ((sthd B eD J 7 8 7).getD 0 zc) (ccell (cE0 B eD X) (cAA B) (c0 m J T) (0, 15, 0, 0)) := by
  refine ⟨rfl, rfl, fun _ => Nat.le_refl _, fun j hj => ?_⟩
  have hj : j < 8 := hj
  match j, hj with
  | 0, _ => rfl
  | 1, _ => rfl
  | 2, _ => rfl
  | 3, _ => rfl
  | 4, _ => rfl
  | 5, _ => exact oc_15_5
  | 6, _ => rfl
  | 7, _ => exact oc_15_7
  | q + 8, h => exact absurd h (by omega)
set_option maxRecDepth 100000 in
theorem oe11 {p : Nat} (hp : p < 30) : xeqv ((c108_F ((B + (16 + 158 * i)) + 1 + (6 + 4 * p))).getD 0 zc) (ccell (cE0 B eD X) (cAA B) (c0 m J T) (0, 11, 30 * i + p, 0)) := by
  have e1 : (30 * i + p) / 30 = i := by omega
  have e2 : (30 * i + p) % 30 = p := by omega
  have ea : cOA B 11 (30 * i + p) = (B + (16 + 158 * i)) + 1 + (6 + 4 * p) := by
    show B + (16 + 158 * ((30 * i + p) / 30)) + 1 + (6 + 4 * ((30 * i + p) % 30)) = _
    rw [e1, e2]
  have er : ∀ z, cAA B 11 (30 * i + p) z = (B + (16 + 158 * i)) + 1 + (6 + 4 * p) + cfo 11 z := fun z => by unfold cAA; rw [ea]
  refine ⟨rfl, rfl, fun _ => Nat.le_refl _, fun j hj => ?_⟩
  have hj : j < 10 := hj
  match j, hj with
  | 0, _ => exact oc_11_0
  | 1, _ => exact oc_11_1
  | 2, _ => exact oc_11_2
  | 3, _ => exact oc_11_3
  | 4, _ => exact oc_11_4
  | 5, _ => exact oc_11_5
  | 6, _ => exact congrArg Value.ref (er 6).symm
  | 7, _ => exact congrArg Value.ref (er 7).symm
  | 8, _ => exact congrArg Value.ref (er 8).symm
  | 9, _ => exact oc_11_9
  | q + 10, h => exact absurd h (by omega)
def stW0 (b : Nat) : Nat → Value := updV (updV (updV (updV (updV (updV (updV ((ocell 14).2.2) 10 (.ref (b + 1))) 11 (.ref (b + 2))) 12 (.ref (b + 3))) 13 (.ref (b + 4))) 14 (.ref (b + 5))) 15 (.ref (b + 6))) 16 (.ref (b + 7))
theorem stW_v (b : Nat) : ∀ k, (stW b k).2.1 = (xCl 14).2.2 ∧ ∀ y, (stW b k).2.2 y = if y = 1 then .int (Int32.ofNat k) else stW0 b y
  | 0 => ⟨rfl, fun y => by
    show stW0 b y = _
    by_cases h : y = 1
    · subst h; exact oc_14_1
    · rw [if_neg h]⟩
  | k + 1 => by
    obtain ⟨h1, h2⟩ := stW_v b k
    refine ⟨h1, fun y => ?_⟩
    show (if y = 1 then Value.int (Int32.ofNat k + 1) else (stW b k).2.2 y) = _
    by_cases h : y = 1
    · rw [if_pos h, if_pos h, show Int32.ofNat (k + 1) = Int32.ofNat k + 1 from (by rw [← y_add]; rfl)]
    · rw [if_neg h, if_neg h, h2 y, if_neg h]
theorem w0_0 (b : Nat) : stW0 b 0 = Value.int 0 := by
  have e : stW0 b 0 = (ocell 14).2.2 0 := by
    unfold stW0 updV
    simp only [show ¬ (0 = 10) from by decide, show ¬ (0 = 11) from by decide, show ¬ (0 = 12) from by decide, show ¬ (0 = 13) from by decide, show ¬ (0 = 14) from by decide, show ¬ (0 = 15) from by decide, show ¬ (0 = 16) from by decide, if_false]
  rw [e, oc_14_0]
theorem w0_2 (b : Nat) : stW0 b 2 = Value.int 0 := by
  have e : stW0 b 2 = (ocell 14).2.2 2 := by
    unfold stW0 updV
    simp only [show ¬ (2 = 10) from by decide, show ¬ (2 = 11) from by decide, show ¬ (2 = 12) from by decide, show ¬ (2 = 13) from by decide, show ¬ (2 = 14) from by decide, show ¬ (2 = 15) from by decide, show ¬ (2 = 16) from by decide, if_false]
  rw [e, oc_14_2]
theorem w0_3 (b : Nat) : stW0 b 3 = Value.int 0 := by
  have e : stW0 b 3 = (ocell 14).2.2 3 := by
    unfold stW0 updV
    simp only [show ¬ (3 = 10) from by decide, show ¬ (3 = 11) from by decide, show ¬ (3 = 12) from by decide, show ¬ (3 = 13) from by decide, show ¬ (3 = 14) from by decide, show ¬ (3 = 15) from by decide, show ¬ (3 = 16) from by decide, if_false]
  rw [e, oc_14_3]
theorem w0_4 (b : Nat) : stW0 b 4 = Value.int 0 := by
  have e : stW0 b 4 = (ocell 14).2.2 4 := by
    unfold stW0 updV
    simp only [show ¬ (4 = 10) from by decide, show ¬ (4 = 11) from by decide, show ¬ (4 = 12) from by decide, show ¬ (4 = 13) from by decide, show ¬ (4 = 14) from by decide, show ¬ (4 = 15) from by decide, show ¬ (4 = 16) from by decide, if_false]
  rw [e, oc_14_4]
theorem w0_5 (b : Nat) : stW0 b 5 = Value.int 0 := by
  have e : stW0 b 5 = (ocell 14).2.2 5 := by
    unfold stW0 updV
    simp only [show ¬ (5 = 10) from by decide, show ¬ (5 = 11) from by decide, show ¬ (5 = 12) from by decide, show ¬ (5 = 13) from by decide, show ¬ (5 = 14) from by decide, show ¬ (5 = 15) from by decide, show ¬ (5 = 16) from by decide, if_false]
  rw [e, oc_14_5]
theorem w0_6 (b : Nat) : stW0 b 6 = Value.int 0 := by
  have e : stW0 b 6 = (ocell 14).2.2 6 := by
    unfold stW0 updV
    simp only [show ¬ (6 = 10) from by decide, show ¬ (6 = 11) from by decide, show ¬ (6 = 12) from by decide, show ¬ (6 = 13) from by decide, show ¬ (6 = 14) from by decide, show ¬ (6 = 15) from by decide, show ¬ (6 = 16) from by decide, if_false]
  rw [e, oc_14_6]
theorem w0_7 (b : Nat) : stW0 b 7 = Value.int 0 := by
  have e : stW0 b 7 = (ocell 14).2.2 7 := by
    unfold stW0 updV
    simp only [show ¬ (7 = 10) from by decide, show ¬ (7 = 11) from by decide, show ¬ (7 = 12) from by decide, show ¬ (7 = 13) from by decide, show ¬ (7 = 14) from by decide, show ¬ (7 = 15) from by decide, show ¬ (7 = 16) from by decide, if_false]
  rw [e, oc_14_7]
theorem w0_8 (b : Nat) : stW0 b 8 = Value.int 0 := by
  have e : stW0 b 8 = (ocell 14).2.2 8 := by
    unfold stW0 updV
    simp only [show ¬ (8 = 10) from by decide, show ¬ (8 = 11) from by decide, show ¬ (8 = 12) from by decide, show ¬ (8 = 13) from by decide, show ¬ (8 = 14) from by decide, show ¬ (8 = 15) from by decide, show ¬ (8 = 16) from by decide, if_false]
  rw [e, oc_14_8]
theorem w0_9 (b : Nat) : stW0 b 9 = Value.long 0 := by
  have e : stW0 b 9 = (ocell 14).2.2 9 := by
    unfold stW0 updV
    simp only [show ¬ (9 = 10) from by decide, show ¬ (9 = 11) from by decide, show ¬ (9 = 12) from by decide, show ¬ (9 = 13) from by decide, show ¬ (9 = 14) from by decide, show ¬ (9 = 15) from by decide, show ¬ (9 = 16) from by decide, if_false]
  rw [e, oc_14_9]
theorem w0_10 (b : Nat) : stW0 b 10 = Value.ref (b + 1) := rfl
theorem w0_11 (b : Nat) : stW0 b 11 = Value.ref (b + 2) := rfl
theorem w0_12 (b : Nat) : stW0 b 12 = Value.ref (b + 3) := rfl
theorem w0_13 (b : Nat) : stW0 b 13 = Value.ref (b + 4) := rfl
theorem w0_14 (b : Nat) : stW0 b 14 = Value.ref (b + 5) := rfl
theorem w0_15 (b : Nat) : stW0 b 15 = Value.ref (b + 6) := rfl
theorem w0_16 (b : Nat) : stW0 b 16 = Value.ref (b + 7) := rfl
set_option maxRecDepth 100000 in
theorem oe14' {w : xC} (w1 : w.1 = 15) (w2 : w.2.1 = (xCl 14).2.2) (w3 : ∀ y, w.2.2 y = if y = 1 then .int (Int32.ofNat 7) else stW0 (B + 5) y) : xeqv w (ccell (cE0 B eD X) (cAA B) (c0 m J T) (0, 14, 0, 0)) := by
  refine ⟨w1, w2, fun _ => by rw [w1, w2]; exact Nat.le_refl _, fun j hj => ?_⟩
  rw [w2] at hj
  have hj : j < 17 := hj
  match j, hj with
  | 0, _ => exact (w3 0).trans ((if_neg (by decide)).trans (w0_0 (B + 5)))
  | 1, _ => exact (w3 1).trans (if_pos rfl)
  | 2, _ => exact (w3 2).trans ((if_neg (by decide)).trans (w0_2 (B + 5)))
  | 3, _ => exact (w3 3).trans ((if_neg (by decide)).trans (w0_3 (B + 5)))
  | 4, _ => exact (w3 4).trans ((if_neg (by decide)).trans (w0_4 (B + 5)))
  | 5, _ => exact (w3 5).trans ((if_neg (by decide)).trans (w0_5 (B + 5)))
  | 6, _ => exact (w3 6).trans ((if_neg (by decide)).trans (w0_6 (B + 5)))
  | 7, _ => exact (w3 7).trans ((if_neg (by decide)).trans (w0_7 (B + 5)))
  | 8, _ => exact (w3 8).trans ((if_neg (by decide)).trans (w0_8 (B + 5)))
  | 9, _ => exact (w3 9).trans ((if_neg (by decide)).trans (w0_9 (B + 5)))
  | 10, _ => exact (w3 10).trans ((if_neg (by decide)).trans (w0_10 (B + 5)))
  | 11, _ => exact (w3 11).trans ((if_neg (by decide)).trans (w0_11 (B + 5)))
  | 12, _ => exact (w3 12).trans ((if_neg (by decide)).trans (w0_12 (B + 5)))
  | 13, _ => exact (w3 13).trans ((if_neg (by decide)).trans (w0_13 (B + 5)))
  | 14, _ => exact (w3 14).trans ((if_neg (by decide)).trans (w0_14 (B + 5)))
  | 15, _ => exact (w3 15).trans ((if_neg (by decide)).trans (w0_15 (B + 5)))
  | 16, _ => exact (w3 16).trans ((if_neg (by decide)).trans (w0_16 (B + 5)))
  | q + 17, h => exact absurd h (by omega)
theorem oe14 : xeqv (stW (B + 5) 7) (ccell (cE0 B eD X) (cAA B) (c0 m J T) (0, 14, 0, 0)) := oe14' (stW_at (B + 5) 7).1 (stW_v (B + 5) 7).1 (stW_v (B + 5) 7).2
set_option maxRecDepth 100000 in
theorem ae15_2 : xeqv ((25, 7, sgs B 7)) (ccell (cE0 B eD X) (cAA B) (c0 m J T) (1, 15, 0, 2)) := ⟨rfl, rfl, fun h => absurd (show 25 ≤ 17 from h) (by decide), fun j hj => (if_pos (show j < 7 from hj)).trans rfl⟩
set_option maxRecDepth 100000 in
theorem ae15_3 : xeqv ((26, 8, sgc B 8)) (ccell (cE0 B eD X) (cAA B) (c0 m J T) (1, 15, 0, 3)) := ⟨rfl, rfl, fun h => absurd (show 26 ≤ 17 from h) (by decide), fun j hj => (if_pos (show j < 8 from hj)).trans rfl⟩
set_option maxRecDepth 100000 in
theorem ae15_4 : xeqv ((22, 400, fun _ => .int 0)) (ccell (cE0 B eD X) (cAA B) (c0 m J T) (1, 15, 0, 4)) := ⟨rfl, rfl, fun h => absurd (show 22 ≤ 17 from h) (by decide), fun j hj => rfl⟩
set_option maxRecDepth 100000 in
theorem ae15_6 : xeqv ((22, 134, fun _ => .int 0)) (ccell (cE0 B eD X) (cAA B) (c0 m J T) (1, 15, 0, 6)) := ⟨rfl, rfl, fun h => absurd (show 22 ≤ 17 from h) (by decide), fun j hj => rfl⟩
set_option maxRecDepth 100000 in
theorem ae14_10 : xeqv ((20, 23, stT J 7)) (ccell (cE0 B eD X) (cAA B) (c0 m J T) (1, 14, 0, 10)) := ⟨rfl, rfl, fun h => absurd (show 20 ≤ 17 from h) (by decide), fun j hj => stT_int J 7 j⟩
set_option maxRecDepth 100000 in
theorem ae14_11 : xeqv ((20, 23, stO 7)) (ccell (cE0 B eD X) (cAA B) (c0 m J T) (1, 14, 0, 11)) := ⟨rfl, rfl, fun h => absurd (show 20 ≤ 17 from h) (by decide), fun j hj => stO_int 7 j⟩
set_option maxRecDepth 100000 in
theorem ae14_12 : xeqv ((20, 256, bfl (fun _ => .int 0) (3) 256)) (ccell (cE0 B eD X) (cAA B) (c0 m J T) (1, 14, 0, 12)) := ⟨rfl, rfl, fun h => absurd (show 20 ≤ 17 from h) (by decide), fun j hj => (if_pos (show j < 256 from hj)).trans rfl⟩
set_option maxRecDepth 100000 in
theorem ae14_13 : xeqv ((20, 7, bfl (fun _ => .int 0) (2) 7)) (ccell (cE0 B eD X) (cAA B) (c0 m J T) (1, 14, 0, 13)) := ⟨rfl, rfl, fun h => absurd (show 20 ≤ 17 from h) (by decide), fun j hj => (if_pos (show j < 7 from hj)).trans rfl⟩
set_option maxRecDepth 100000 in
theorem ae14_14 : xeqv ((21, 7, stS J 7)) (ccell (cE0 B eD X) (cAA B) (c0 m J T) (1, 14, 0, 14)) := ⟨rfl, rfl, fun h => absurd (show 21 ≤ 17 from h) (by decide), fun j hj => stS_long J 7 j hj⟩
set_option maxRecDepth 100000 in
theorem ae4_2 : xeqv ((20, 640, fun _ => .int 0)) (ccell (cE0 B eD X) (cAA B) (c0 m J T) (1, 4, 0, 2)) := ⟨rfl, rfl, fun h => absurd (show 20 ≤ 17 from h) (by decide), fun j hj => rfl⟩
set_option maxRecDepth 100000 in
theorem ae4_3 : xeqv ((22, 2048, fun _ => .int 0)) (ccell (cE0 B eD X) (cAA B) (c0 m J T) (1, 4, 0, 3)) := ⟨rfl, rfl, fun h => absurd (show 22 ≤ 17 from h) (by decide), fun j hj => rfl⟩
set_option maxRecDepth 100000 in
theorem ae5_12 : xeqv ((22, 134, fun _ => .int 0)) (ccell (cE0 B eD X) (cAA B) (c0 m J T) (1, 5, i, 12)) := ⟨rfl, rfl, fun h => absurd (show 22 ≤ 17 from h) (by decide), fun j hj => rfl⟩
set_option maxRecDepth 100000 in
theorem ae6_2 : xeqv ((20, 16, fun _ => .int 0)) (ccell (cE0 B eD X) (cAA B) (c0 m J T) (1, 6, i, 2)) := ⟨rfl, rfl, fun h => absurd (show 20 ≤ 17 from h) (by decide), fun j hj => rfl⟩
set_option maxRecDepth 100000 in
theorem ae6_3 : xeqv ((20, 16, fun _ => .int 0)) (ccell (cE0 B eD X) (cAA B) (c0 m J T) (1, 6, i, 3)) := ⟨rfl, rfl, fun h => absurd (show 20 ≤ 17 from h) (by decide), fun j hj => rfl⟩
set_option maxRecDepth 100000 in
theorem ae6_4 : xeqv ((20, 16, fun _ => .int 0)) (ccell (cE0 B eD X) (cAA B) (c0 m J T) (1, 6, i, 4)) := ⟨rfl, rfl, fun h => absurd (show 20 ≤ 17 from h) (by decide), fun j hj => rfl⟩
set_option maxRecDepth 100000 in
theorem ae7_0 : xeqv ((20, 7, fun _ => .int 0)) (ccell (cE0 B eD X) (cAA B) (c0 m J T) (1, 7, i, 0)) := ⟨rfl, rfl, fun h => absurd (show 20 ≤ 17 from h) (by decide), fun j hj => rfl⟩
set_option maxRecDepth 100000 in
theorem ae7_1 : xeqv ((20, 7, fun _ => .int 0)) (ccell (cE0 B eD X) (cAA B) (c0 m J T) (1, 7, i, 1)) := ⟨rfl, rfl, fun h => absurd (show 20 ≤ 17 from h) (by decide), fun j hj => rfl⟩
set_option maxRecDepth 100000 in
theorem ae7_2 : xeqv ((20, 7, fun _ => .int 0)) (ccell (cE0 B eD X) (cAA B) (c0 m J T) (1, 7, i, 2)) := ⟨rfl, rfl, fun h => absurd (show 20 ≤ 17 from h) (by decide), fun j hj => rfl⟩
set_option maxRecDepth 100000 in
theorem ae7_3 : xeqv ((20, 7, fun _ => .int 0)) (ccell (cE0 B eD X) (cAA B) (c0 m J T) (1, 7, i, 3)) := ⟨rfl, rfl, fun h => absurd (show 20 ≤ 17 from h) (by decide), fun j hj => rfl⟩
set_option maxRecDepth 100000 in
theorem ae7_4 : xeqv ((20, 7, fun _ => .int 0)) (ccell (cE0 B eD X) (cAA B) (c0 m J T) (1, 7, i, 4)) := ⟨rfl, rfl, fun h => absurd (show 20 ≤ 17 from h) (by decide), fun j hj => rfl⟩
set_option maxRecDepth 100000 in
theorem ae7_5 : xeqv ((20, 7, fun _ => .int 0)) (ccell (cE0 B eD X) (cAA B) (c0 m J T) (1, 7, i, 5)) := ⟨rfl, rfl, fun h => absurd (show 20 ≤ 17 from h) (by decide), fun j hj => rfl⟩
set_option maxRecDepth 100000 in
theorem ae7_6 : xeqv ((23, 7, fun _ => .int 0)) (ccell (cE0 B eD X) (cAA B) (c0 m J T) (1, 7, i, 6)) := ⟨rfl, rfl, fun h => absurd (show 23 ≤ 17 from h) (by decide), fun j hj => rfl⟩
set_option maxRecDepth 100000 in
theorem ae7_7 : xeqv ((23, 7, fun _ => .int 0)) (ccell (cE0 B eD X) (cAA B) (c0 m J T) (1, 7, i, 7)) := ⟨rfl, rfl, fun h => absurd (show 23 ≤ 17 from h) (by decide), fun j hj => rfl⟩
set_option maxRecDepth 100000 in
theorem ae9_1 : xeqv ((20, 1800, fun _ => .int 0)) (ccell (cE0 B eD X) (cAA B) (c0 m J T) (1, 9, i, 1)) := ⟨rfl, rfl, fun h => absurd (show 20 ≤ 17 from h) (by decide), fun j hj => rfl⟩
set_option maxRecDepth 100000 in
theorem ae9_2 : xeqv ((20, 6, fun _ => .int 0)) (ccell (cE0 B eD X) (cAA B) (c0 m J T) (1, 9, i, 2)) := ⟨rfl, rfl, fun h => absurd (show 20 ≤ 17 from h) (by decide), fun j hj => rfl⟩
set_option maxRecDepth 100000 in
theorem ae10_2 : xeqv ((20, 80, fun _ => .int 0)) (ccell (cE0 B eD X) (cAA B) (c0 m J T) (1, 10, i, 2)) := ⟨rfl, rfl, fun h => absurd (show 20 ≤ 17 from h) (by decide), fun j hj => rfl⟩
set_option maxRecDepth 100000 in
theorem ae10_3 : xeqv ((22, 1616, fun _ => .int 0)) (ccell (cE0 B eD X) (cAA B) (c0 m J T) (1, 10, i, 3)) := ⟨rfl, rfl, fun h => absurd (show 22 ≤ 17 from h) (by decide), fun j hj => rfl⟩
set_option maxRecDepth 100000 in
theorem ae10_6 : xeqv ((20, 128, idf 128)) (ccell (cE0 B eD X) (cAA B) (c0 m J T) (1, 10, i, 6)) := ⟨rfl, rfl, fun h => absurd (show 20 ≤ 17 from h) (by decide), fun j hj => (if_pos (show j < 128 from hj)).trans rfl⟩
set_option maxRecDepth 100000 in
theorem ae10_7 : xeqv ((20, 128, fun _ => .int 0)) (ccell (cE0 B eD X) (cAA B) (c0 m J T) (1, 10, i, 7)) := ⟨rfl, rfl, fun h => absurd (show 20 ≤ 17 from h) (by decide), fun j hj => rfl⟩
set_option maxRecDepth 100000 in
theorem ae10_8 : xeqv ((20, 128, fun _ => .int 0)) (ccell (cE0 B eD X) (cAA B) (c0 m J T) (1, 10, i, 8)) := ⟨rfl, rfl, fun h => absurd (show 20 ≤ 17 from h) (by decide), fun j hj => rfl⟩
set_option maxRecDepth 100000 in
theorem ae10_9 : xeqv ((22, 16896, fun _ => .int 0)) (ccell (cE0 B eD X) (cAA B) (c0 m J T) (1, 10, i, 9)) := ⟨rfl, rfl, fun h => absurd (show 22 ≤ 17 from h) (by decide), fun j hj => rfl⟩
set_option maxRecDepth 100000 in
theorem ae10_10 : xeqv ((22, 134, fun _ => .int 0)) (ccell (cE0 B eD X) (cAA B) (c0 m J T) (1, 10, i, 10)) := ⟨rfl, rfl, fun h => absurd (show 22 ≤ 17 from h) (by decide), fun j hj => rfl⟩
set_option maxRecDepth 100000 in
theorem ae12_0 : xeqv ((23, 32, fun _ => .int 0)) (ccell (cE0 B eD X) (cAA B) (c0 m J T) (1, 12, i, 0)) := ⟨rfl, rfl, fun h => absurd (show 23 ≤ 17 from h) (by decide), fun j hj => rfl⟩
set_option maxRecDepth 100000 in
theorem ae12_1 : xeqv ((20, 32, fun _ => .int 0)) (ccell (cE0 B eD X) (cAA B) (c0 m J T) (1, 12, i, 1)) := ⟨rfl, rfl, fun h => absurd (show 20 ≤ 17 from h) (by decide), fun j hj => rfl⟩
set_option maxRecDepth 100000 in
theorem ae12_2 : xeqv ((20, 32, fun _ => .int 0)) (ccell (cE0 B eD X) (cAA B) (c0 m J T) (1, 12, i, 2)) := ⟨rfl, rfl, fun h => absurd (show 20 ≤ 17 from h) (by decide), fun j hj => rfl⟩
set_option maxRecDepth 100000 in
theorem ae12_3 : xeqv ((20, 32, fun _ => .int 0)) (ccell (cE0 B eD X) (cAA B) (c0 m J T) (1, 12, i, 3)) := ⟨rfl, rfl, fun h => absurd (show 20 ≤ 17 from h) (by decide), fun j hj => rfl⟩
set_option maxRecDepth 100000 in
theorem ae12_4 : xeqv ((20, 32, fun _ => .int 0)) (ccell (cE0 B eD X) (cAA B) (c0 m J T) (1, 12, i, 4)) := ⟨rfl, rfl, fun h => absurd (show 20 ≤ 17 from h) (by decide), fun j hj => rfl⟩
set_option maxRecDepth 100000 in
theorem ae12_5 : xeqv ((20, 32, fun _ => .int 0)) (ccell (cE0 B eD X) (cAA B) (c0 m J T) (1, 12, i, 5)) := ⟨rfl, rfl, fun h => absurd (show 20 ≤ 17 from h) (by decide), fun j hj => rfl⟩
set_option maxRecDepth 100000 in
theorem ae12_6 : xeqv ((20, 32, fun _ => .int 0)) (ccell (cE0 B eD X) (cAA B) (c0 m J T) (1, 12, i, 6)) := ⟨rfl, rfl, fun h => absurd (show 20 ≤ 17 from h) (by decide), fun j hj => rfl⟩
set_option maxRecDepth 100000 in
theorem ae10_14 : xeqv ((22, 0, fun _ => .int 0)) (ccell (cE0 B eD X) (cAA B) (c0 m J T) (1, 10, i, 14)) := ⟨rfl, rfl, fun h => absurd (show 22 ≤ 17 from h) (by decide), fun j hj => absurd hj (Nat.not_lt_zero j)⟩
set_option maxRecDepth 100000 in
theorem ae13_18 : xeqv ((22, 0, fun _ => .int 0)) (ccell (cE0 B eD X) (cAA B) (c0 m J T) (1, 13, i, 18)) := ⟨rfl, rfl, fun h => absurd (show 22 ≤ 17 from h) (by decide), fun j hj => absurd hj (Nat.not_lt_zero j)⟩
set_option maxRecDepth 100000 in
theorem ae11_6 : xeqv ((20, 0, fun _ => .int 0)) (ccell (cE0 B eD X) (cAA B) (c0 m J T) (1, 11, i, 6)) := ⟨rfl, rfl, fun h => absurd (show 20 ≤ 17 from h) (by decide), fun j hj => absurd hj (Nat.not_lt_zero j)⟩
set_option maxRecDepth 100000 in
theorem ae11_7 : xeqv ((20, 0, fun _ => .int 0)) (ccell (cE0 B eD X) (cAA B) (c0 m J T) (1, 11, i, 7)) := ⟨rfl, rfl, fun h => absurd (show 20 ≤ 17 from h) (by decide), fun j hj => absurd hj (Nat.not_lt_zero j)⟩
set_option maxRecDepth 100000 in
theorem ae11_8 : xeqv ((22, 0, fun _ => .int 0)) (ccell (cE0 B eD X) (cAA B) (c0 m J T) (1, 11, i, 8)) := ⟨rfl, rfl, fun h => absurd (show 22 ≤ 17 from h) (by decide), fun j hj => absurd hj (Nat.not_lt_zero j)⟩
set_option maxRecDepth 100000 in
theorem ae6_0 : xeqv (27, 16, pga ((B + (16 + 158 * i)) + 1) 16) (ccell (cE0 B eD X) (cAA B) (c0 m J T) (1, 6, i, 0)) := by
  refine ⟨rfl, rfl, fun h => absurd (show 27 ≤ 17 from h) (by decide), fun j hj => ?_⟩
  have hj : j < 16 := hj
  have hb0 : ∀ j, j < 16 → cpg j < 30 := by decide
  have hb := hb0 j hj
  have e1 : (30 * i + cpg j) / 30 = i := by omega
  have e2 : (30 * i + cpg j) % 30 = cpg j := by omega
  refine (if_pos hj).trans ?_
  show Value.ref ((B + (16 + 158 * i)) + 1 + (6 + 4 * cpg j)) = Value.ref (B + (16 + 158 * ((30 * i + cpg j) / 30)) + 1 + (6 + 4 * ((30 * i + cpg j) % 30)))
  rw [e1, e2]
set_option maxRecDepth 100000 in
theorem ae6_1 : xeqv (27, 16, pgb ((B + (16 + 158 * i)) + 1) 16) (ccell (cE0 B eD X) (cAA B) (c0 m J T) (1, 6, i, 1)) := by
  refine ⟨rfl, rfl, fun h => absurd (show 27 ≤ 17 from h) (by decide), fun j hj => ?_⟩
  have hj : j < 16 := hj
  have hb0 : ∀ j, j < 16 → ckp j < 30 := by decide
  have hb := hb0 j hj
  have e1 : (30 * i + ckp j) / 30 = i := by omega
  have e2 : (30 * i + ckp j) % 30 = ckp j := by omega
  refine (if_pos hj).trans ?_
  show Value.ref ((B + (16 + 158 * i)) + 1 + (6 + 4 * ckp j)) = Value.ref (B + (16 + 158 * ((30 * i + ckp j) / 30)) + 1 + (6 + 4 * ((30 * i + ckp j) % 30)))
  rw [e1, e2]
set_option maxRecDepth 100000 in
theorem le14_15 : xeqv (lcell eD) (ccell (cE0 B eD X) (cAA B) (c0 m J T) (2, 14, 0, 15)) := by
  refine ⟨rfl, rfl, fun _ => Nat.le_refl _, fun j hj => ?_⟩
  have hj : j < 3 := hj
  match j, hj with
  | 0, _ => rfl
  | 1, _ => rfl
  | 2, _ => exact oc_3_2
  | q + 3, h => exact absurd h (by omega)
set_option maxRecDepth 100000 in
theorem le14_16 : xeqv (lcell eD) (ccell (cE0 B eD X) (cAA B) (c0 m J T) (2, 14, 0, 16)) := by
  refine ⟨rfl, rfl, fun _ => Nat.le_refl _, fun j hj => ?_⟩
  have hj : j < 3 := hj
  match j, hj with
  | 0, _ => rfl
  | 1, _ => rfl
  | 2, _ => exact oc_3_2
  | q + 3, h => exact absurd h (by omega)
set_option maxRecDepth 100000 in
theorem le13_7 : xeqv (lcell eD) (ccell (cE0 B eD X) (cAA B) (c0 m J T) (2, 13, i, 7)) := by
  refine ⟨rfl, rfl, fun _ => Nat.le_refl _, fun j hj => ?_⟩
  have hj : j < 3 := hj
  match j, hj with
  | 0, _ => rfl
  | 1, _ => rfl
  | 2, _ => exact oc_3_2
  | q + 3, h => exact absurd h (by omega)
theorem srvs_at {b eD : Nat} {m : Int32} {i r : Nat} (hr : r < 158) : ∀ {k}, i < k → (srvs b eD m k)[158 * i + r]? = (c140_F (b + (16 + 158 * i)) eD (Int32.ofNat i) m (b + 5) (b + 13))[r]?
  | k + 1, h => by
    show (srvs b eD m k ++ c140_F _ eD _ m _ _)[158 * i + r]? = _
    by_cases e : i = k
    · subst e
      rw [List.getElem?_append_right (by rw [srvs_len]; omega), srvs_len, Nat.add_sub_cancel_left]
    · rw [List.getElem?_append_left (by rw [srvs_len]; omega)]
      exact srvs_at hr (by omega)
theorem clis_at {b i q : Nat} (hq : q < 2) : ∀ {k}, i < k → (clis b k)[2 * i + q]? = (c26_F (b + (1122 + 2 * i)) ((8 : Int32) + Int32.ofNat i) (b + 5) (b + 13))[q]?
  | k + 1, h => by
    show (clis b k ++ c26_F _ _ _ _)[2 * i + q]? = _
    by_cases e : i = k
    · subst e
      rw [List.getElem?_append_right (by rw [clis_len]; omega), clis_len, Nat.add_sub_cancel_left]
    · rw [List.getElem?_append_left (by rw [clis_len]; omega)]
      exact clis_at hq (by omega)
theorem pgs_at2 (b : Nat) {q z : Nat} (hz : z < 4) : ∀ {p}, q < p → (pgs b p)[4 * q + z]? = (c108_F (b + (6 + 4 * q)))[z]?
  | p + 1, h => by
    show (pgs b p ++ c108_F _)[4 * q + z]? = _
    by_cases e : q = p
    · subst e
      rw [List.getElem?_append_right (by rw [pgs_len]; omega), pgs_len, Nat.add_sub_cancel_left]
    · rw [List.getElem?_append_left (by rw [pgs_len]; omega)]
      exact pgs_at2 b hz (by omega)
theorem c40_lo {b q : Nat} (hq : q < 6) : (c40_F b)[q]? = (c40_hd b 16 16)[q]? := List.getElem?_append_left hq
theorem c40_pg {b p z : Nat} (hp : p < 30) (hz : z < 4) : (c40_F b)[6 + 4 * p + z]? = (c108_F (b + (6 + 4 * p)))[z]? := by
  unfold c40_F
  have e : (c40_hd b 16 16).length = 6 := rfl
  rw [List.getElem?_append_right (by rw [e]; omega), e, show 6 + 4 * p + z - 6 = 4 * p + z by omega]
  exact pgs_at2 b hz hp
theorem c140_dk {b eD : Nat} {l1 l2 : Int32} {l3 l4 q : Nat} (hq : q < 126) : (c140_F b eD l1 l2 l3 l4)[1 + q]? = (c40_F (b + 1))[q]? := by
  unfold c140_F
  rw [show 1 + q = q + 1 from Nat.add_comm 1 q, List.getElem?_cons_succ]
  simp only [List.nil_append, List.append_assoc]
  exact List.getElem?_append_left (by rw [c40_len]; exact hq)
theorem c140_hi {b eD : Nat} {l1 l2 : Int32} {l3 l4 q : Nat} : (c140_F b eD l1 l2 l3 l4)[127 + q]? = (c55_F (b + 127) ++ (c118_F (b + 136) ++ ([lcell eD] ++ ([(22, 0, fun _ => .int 0)] ++ (c68_F (b + 146) l2 ++ c84_S (b + 149) l4 128)))))[q]? := by
  unfold c140_F
  rw [show 127 + q = 126 + q + 1 by omega, List.getElem?_cons_succ]
  simp only [List.nil_append, List.append_assoc]
  rw [List.getElem?_append_right (by rw [c40_len]; omega), c40_len, Nat.add_sub_cancel_left]
/-- the cell at an offset -/
def ceq (B eD : Nat) (X : Nat → Option xC) (I : Int32) (J : Int64) (T : Nat × Nat) (d : Nat) : Prop := ∃ x, (c220_F B eD I J)[d]? = some x ∧ xeqv x (ccell (cE0 B eD X) (cAA B) (c0 (stm I) J T) (cdec d))
theorem ceq_lo {d : Nat} (h : d < 16) : ceq B eD X I J T d := by
  unfold ceq c220_F
  rw [List.getElem?_append_left h]
  match d, h with
  | 0, _ => exact ⟨_, rfl, oe15⟩
  | 1, _ => exact ⟨_, rfl, ae15_2⟩
  | 2, _ => exact ⟨_, rfl, ae15_3⟩
  | 3, _ => exact ⟨_, rfl, ae15_4⟩
  | 4, _ => exact ⟨_, rfl, ae15_6⟩
  | 5, _ => exact ⟨_, rfl, oe14⟩
  | 6, _ => exact ⟨_, rfl, ae14_10⟩
  | 7, _ => exact ⟨_, rfl, ae14_11⟩
  | 8, _ => exact ⟨_, rfl, ae14_12⟩
  | 9, _ => exact ⟨_, rfl, ae14_13⟩
  | 10, _ => exact ⟨_, rfl, ae14_14⟩
  | 11, _ => exact ⟨_, rfl, le14_15⟩
  | 12, _ => exact ⟨_, rfl, le14_16⟩
  | 13, _ => exact ⟨_, rfl, oe4⟩
  | 14, _ => exact ⟨_, rfl, ae4_2⟩
  | 15, _ => exact ⟨_, rfl, ae4_3⟩
  | q + 16, h => exact absurd h (by omega)
theorem ceq_srv {r : Nat} (hi : i < 7) (hr : r < 158) : ceq B eD X I J T (16 + 158 * i + r) := by
  unfold ceq c220_F
  rw [List.getElem?_append_right (by rw [sthd_len]; omega), sthd_len, List.getElem?_append_left (by rw [srvs_len]; omega), show 16 + 158 * i + r - 16 = 158 * i + r by omega, srvs_at hr hi, cdec_s hi hr]
  by_cases r0 : r = 0
  · subst r0
    exact ⟨_, rfl, oe13⟩
  rw [if_neg r0]
  by_cases r7 : r < 7
  · rw [if_pos r7]
    obtain ⟨q, rfl⟩ : ∃ q, r = 1 + q := ⟨r - 1, by omega⟩
    rw [c140_dk (by omega), c40_lo (by omega), Nat.add_sub_cancel_left]
    have hq : q < 6 := by omega
    match q, hq with
    | 0, _ => exact ⟨_, rfl, oe6⟩
    | 1, _ => exact ⟨_, rfl, ae6_0⟩
    | 2, _ => exact ⟨_, rfl, ae6_1⟩
    | 3, _ => exact ⟨_, rfl, ae6_2⟩
    | 4, _ => exact ⟨_, rfl, ae6_3⟩
    | 5, _ => exact ⟨_, rfl, ae6_4⟩
    | q + 6, h => exact absurd h (by omega)
  rw [if_neg r7]
  by_cases r127 : r < 127
  · rw [if_pos r127]
    obtain ⟨p, z, rfl, hp, hz⟩ : ∃ p z, r = 1 + (6 + 4 * p + z) ∧ p < 30 ∧ z < 4 := ⟨(r - 7) / 4, (r - 7) % 4, by omega, by omega, by omega⟩
    rw [c140_dk (by omega), c40_pg hp hz, show (1 + (6 + 4 * p + z) - 7) / 4 = p by omega, show (1 + (6 + 4 * p + z) - 7) % 4 = z by omega]
    match z, hz with
    | 0, _ => exact ⟨_, rfl, oe11 hp⟩
    | 1, _ => exact ⟨_, rfl, ae11_6⟩
    | 2, _ => exact ⟨_, rfl, ae11_7⟩
    | 3, _ => exact ⟨_, rfl, ae11_8⟩
    | q + 4, h => exact absurd h (by omega)
  rw [if_neg r127]
  obtain ⟨q, rfl⟩ : ∃ q, r = 127 + q := ⟨r - 127, by omega⟩
  rw [c140_hi, Nat.add_sub_cancel_left]
  have hq : q < 31 := by omega
  match q, hq with
  | 0, _ => exact ⟨_, rfl, oe7⟩
  | 1, _ => exact ⟨_, rfl, ae7_0⟩
  | 2, _ => exact ⟨_, rfl, ae7_1⟩
  | 3, _ => exact ⟨_, rfl, ae7_2⟩
  | 4, _ => exact ⟨_, rfl, ae7_3⟩
  | 5, _ => exact ⟨_, rfl, ae7_4⟩
  | 6, _ => exact ⟨_, rfl, ae7_5⟩
  | 7, _ => exact ⟨_, rfl, ae7_6⟩
  | 8, _ => exact ⟨_, rfl, ae7_7⟩
  | 9, _ => exact ⟨_, rfl, oe12⟩
  | 10, _ => exact ⟨_, rfl, ae12_0⟩
  | 11, _ => exact ⟨_, rfl, ae12_1⟩
  | 12, _ => exact ⟨_, rfl, ae12_2⟩
  | 13, _ => exact ⟨_, rfl, ae12_3⟩
  | 14, _ => exact ⟨_, rfl, ae12_4⟩
  | 15, _ => exact ⟨_, rfl, ae12_5⟩
  | 16, _ => exact ⟨_, rfl, ae12_6⟩
  | 17, _ => exact ⟨_, rfl, le13_7⟩
  | 18, _ => exact ⟨_, rfl, ae13_18⟩
  | 19, _ => exact ⟨_, rfl, oe9⟩
  | 20, _ => exact ⟨_, rfl, ae9_1⟩
  | 21, _ => exact ⟨_, rfl, ae9_2⟩
  | 22, _ => exact ⟨_, rfl, oe10⟩
  | 23, _ => exact ⟨_, rfl, ae10_2⟩
  | 24, _ => exact ⟨_, rfl, ae10_3⟩
  | 25, _ => exact ⟨_, rfl, ae10_6⟩
  | 26, _ => exact ⟨_, rfl, ae10_7⟩
  | 27, _ => exact ⟨_, rfl, ae10_8⟩
  | 28, _ => exact ⟨_, rfl, ae10_9⟩
  | 29, _ => exact ⟨_, rfl, ae10_10⟩
  | 30, _ => exact ⟨_, rfl, ae10_14⟩
  | q + 31, h => exact absurd h (by omega)
theorem ceq_cli {q : Nat} (hi : i < 8) (hq : q < 2) : ceq B eD X I J T (1122 + 2 * i + q) := by
  unfold ceq c220_F
  rw [List.getElem?_append_right (by rw [sthd_len]; omega), sthd_len, List.getElem?_append_right (by rw [srvs_len]; omega), srvs_len, show 1122 + 2 * i + q - 16 - 158 * 7 = 2 * i + q by omega, clis_at hq hi, cdec_c hi hq]
  match q, hq with
  | 0, _ => exact ⟨_, rfl, oe5⟩
  | 1, _ => exact ⟨_, rfl, ae5_12⟩
  | q + 2, h => exact absurd h (by omega)
theorem ceq_all {d : Nat} (h : d < 1138) : ceq B eD X I J T d := by
  by_cases h1 : d < 16
  · exact ceq_lo h1
  by_cases h2 : d < 1122
  · have e : d = 16 + 158 * ((d - 16) / 158) + (d - 16) % 158 := by omega
    rw [e]
    exact ceq_srv (by omega) (by omega)
  · have e : d = 1122 + 2 * ((d - 1122) / 2) + (d - 1122) % 2 := by omega
    rw [e]
    exact ceq_cli (by omega) (by omega)
end CQ
