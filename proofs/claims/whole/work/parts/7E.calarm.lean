/-! World's drawAlarm while the objects are being laid -/
section CA1
variable {pF : Nat → List Value → xH → Option (Option Value × xH)} {d : Nat} {G : Nat → xC} {a : Nat} {l : List xC} {H : Nat × Nat}
/-- a row's next number, the time drawn from it -/
def ddraw (x : Int64) : Int64 := x * (6364136223846793005 : Int64) + (1442695040888963407 : Int64)
def dtime (now : Int32) (x : Int64) : Int32 := (now + (50 : Int32)) + ((((ddraw x).toUInt64 >>> (((33 : Int32)).toInt64.toUInt64 &&& Int64.toUInt64 63)).toInt64) - (((ddraw x).toUInt64 >>> (((33 : Int32)).toInt64.toUInt64 &&& Int64.toUInt64 63)).toInt64) / ((50 : Int64)) * ((50 : Int64))).toInt32
def balarm (l : List xC) (w j : Nat) (nw mk : Int32) (x : Int64) (W : xC) (T O S : Nat → Value) : List xC := bbell (l.set (w + 5) (21, 7, updV S j (.long (ddraw x)))) w j (dtime nw x) mk W T O
theorem b_drawAlarm (hp0 : xNPc pF) {w j : Nat} {W : xC} {T O S : Nat → Value} {nw mk : Int32} {x : Int64} (hW : l[w]? = some W) (hW1 : W.1 = 15) (ht : W.2.2 10 = .ref (a + (w + 1))) (ho : W.2.2 11 = .ref (a + (w + 2))) (hs : W.2.2 14 = .ref (a + (w + 5))) (hm : W.2.2 1 = .int mk) (hn : W.2.2 0 = .int nw)
    (hT : l[w + 1]? = some (20, 23, T)) (hO : l[w + 2]? = some (20, 23, O)) (hS : l[w + 5]? = some (21, 7, S)) (hx : S j = .long x) (hj : j < 7) :
    xCo pF (d + 2) 188 [.ref (a + w), .int (Int32.ofNat j)] (hbl G a l, H) none (hbl G a (balarm l w j nw mk x W T O S), H) := by
  obtain ⟨n1, n2⟩ := y_ofn (n := j) (by omega)
  have hjj : ¬ (Int32.ofNat j < 0 ∨ 7 ≤ (Int32.ofNat j).toNatClampNeg) := fun z => z.elim n2 (fun z => by omega)
  have e0 : ∀ q, q ≠ w + 5 → (l.set (w + 5) (21, 7, updV S j (.long (ddraw x))))[q]? = l[q]? := fun q hq => List.getElem?_set_ne (by omega)
  have e5 : (l.set (w + 5) (21, 7, updV S j (.long (ddraw x))))[w + 5]? = some (21, 7, updV S j (.long (ddraw x))) := List.getElem?_set_self (List.getElem?_eq_some_iff.mp hS).1
  have eW : (l.set (w + 5) (21, 7, updV S j (.long (ddraw x))))[w]? = some W := by rw [e0 w (by omega)]; exact hW
  refine xCo_R kk_188 mo_188 ni_188 xm_188 (Nat.le_of_ble_eq_true rfl) (hp0 188 (by decide) _ _) ?_
  refine eE_aload_n lk188_0 (x := a + w) rfl ?_
  refine bE_get (i := w) lk188_1 rf_14_24 hW hW1 hs ?_
  refine eE_iload_n lk188_4 (x := Int32.ofNat j) rfl ?_
  refine eE_aload_n lk188_5 (x := a + w) rfl ?_
  refine bE_get (i := w) lk188_6 rf_14_24 hW hW1 hs ?_
  refine eE_iload_n lk188_9 (x := Int32.ofNat j) rfl ?_
  refine bE_lald (i := w + 5) lk188_10 hS rfl hjj (v := .long x) (by rw [n1]; exact hx) ?_
  refine eE_ldc2_w (v := 6364136223846793005) lk188_11 xl_14_104 ?_
  refine eE_lmul lk188_14 ?_
  refine eE_ldc2_w (v := 1442695040888963407) lk188_15 xl_14_106 ?_
  refine eE_ladd lk188_18 ?_
  refine bE_last (i := w + 5) lk188_19 hS rfl hjj ?_
  rw [n1]
  refine eE_aload_n lk188_20 (x := a + w) rfl ?_
  refine eE_iload_n lk188_21 (x := Int32.ofNat j) rfl ?_
  refine eE_aload_n lk188_22 (x := a + w) rfl ?_
  refine bE_get (i := w) lk188_23 rf_14_77 eW hW1 hn ?_
  refine eE_bipush (v := 50) lk188_26 (by decide) ?_
  refine eE_iadd lk188_28 ?_
  refine eE_aload_n lk188_29 (x := a + w) rfl ?_
  refine bE_get (i := w) lk188_30 rf_14_24 eW hW1 hs ?_
  refine eE_iload_n lk188_33 (x := Int32.ofNat j) rfl ?_
  refine bE_lald (i := w + 5) lk188_34 e5 rfl hjj (v := .long (ddraw x)) (by rw [n1]; exact if_pos rfl) ?_
  refine eE_bipush (v := 33) lk188_35 (by decide) ?_
  refine eE_lushr lk188_37 ?_
  refine eE_ldc2_w (v := 50) lk188_38 xl_14_148 ?_
  refine eE_lrem lk188_41 (by decide) ?_
  refine eE_l2i lk188_42 ?_
  refine eE_iadd lk188_43 ?_
  refine eE_virt (as := [.int (Int32.ofNat j), .int (dtime nw x)]) (r := none) lk188_44 mr_14_150 na_200 rfl rfl (Nat.le_of_ble_eq_true rfl) wv_200 ?_
    (b_setBell (d := d) hp0 (w := w) (mk := mk) eW hW1 ht ho hm ((e0 _ (by omega)).trans hT) ((e0 _ (by omega)).trans hO) (by omega)) ?_
  · have eg : ((hbl G a (l.set (w + 5) (21, 7, updV S j (.long (ddraw x)))), H) : xH).1 (a + w) = W := hbl_in eW
    have key : (xMn 200).cls = (xCl ((((hbl G a (l.set (w + 5) (21, 7, updV S j (.long (ddraw x)))), H) : xH).1 (a + w)).1 - 1)).1 ∧ 0 < (((hbl G a (l.set (w + 5) (21, 7, updV S j (.long (ddraw x)))), H) : xH).1 (a + w)).1 ∧ (((hbl G a (l.set (w + 5) (21, 7, updV S j (.long (ddraw x)))), H) : xH).1 (a + w)).1 ≤ 17 := by
      rw [eg, hW1]
      exact ⟨wc_200, Nat.le_of_ble_eq_true rfl, Nat.le_of_ble_eq_true rfl⟩
    exact key
  exact eE_end lk188_47 rfl rfl rfl
end CA1
