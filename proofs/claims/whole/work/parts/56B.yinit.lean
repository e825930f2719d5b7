/-! ArrayList's constructor: by its walk -/
section YI
variable {l : Launch} {G0 : Heap} {Y : State → Prop} {D : va_G} {dA : Nat → ClassId} {base d eD mi : Nat}
def ypN : Nat → List Value → xH → Option (Option Value × xH) := fun _ _ _ => none
theorem ypN_ok : ∀ d y as h r h', 4 ≤ d → ypN y as h = some (r, h') → xMet l G0 Y D dA base (d + 1) y as h r h' := fun _ _ _ _ _ _ _ h => by cases h
def yh4 (h : xH) (a : Nat) : xH := (xset h.1 a (4, (h.1 a).2.1, updV (h.1 a).2.2 0 (.int 0)), h.2)
/-- a new list -/
def yhI (h : xH) (a eD : Nat) : xH := (xset h.1 a (4, (h.1 a).2.1, updV (updV (h.1 a).2.2 0 (.int 0)) 1 (.ref eD)), h.2)
theorem y_402 {pF : Nat → List Value → xH → Option (Option Value × xH)} {a : Nat} {h : xH} (hp : pF 402 [.ref a] h = none) : xCo pF (d + 1) 402 [.ref a] h none h := by
  refine xCo_Ri ykk_402 ymo_402 yni_402 yxm_402 (Nat.le_of_ble_eq_true rfl) hp ?_
  refine eE_aload_n yl402_0 (x := a) rfl ?_
  refine eE_obj yl402_1 (by decide +kernel) (by decide +kernel) (by decide +kernel) (Nat.le_of_ble_eq_true rfl) ?_
  exact eE_end yl402_4 rfl rfl rfl
theorem y_401 {pF : Nat → List Value → xH → Option (Option Value × xH)} {a : Nat} {h : xH} (hp : pF 402 [.ref a] h = none) (hp1 : pF 401 [.ref a] h = none) (ht : (h.1 a).1 = 4) : xCo pF (d + 2) 401 [.ref a] h none (yh4 h a) := by
  refine xCo_Ri ykk_401 ymo_401 yni_401 yxm_401 (Nat.le_of_ble_eq_true rfl) hp1 ?_
  refine eE_aload_n yl401_0 (x := a) rfl ?_
  refine eE_init (as := []) yl401_1 (Or.inl ymr_21_1) yna_402 rfl rfl (Nat.le_of_ble_eq_true rfl) ywi_402 (y_402 hp) ?_
  refine eE_aload_n yl401_4 (x := a) rfl ?_
  refine eE_iconst (v := 0) yl401_5 (by decide) ?_
  refine yE_modp (h' := yh4 h a) yl401_6 (Or.inr ⟨rfl, rfl⟩) ht rfl ?_
  exact eE_end yl401_9 rfl rfl rfl
theorem y_9 (hY : ∀ U, Y U → yY G0 base eD mi U) (hd4 : 4 ≤ d) {a : Nat} {h : xH} (ht : (h.1 a).1 = 4) : xMet l G0 Y D dA base (d + 1) 9 [.ref a] h none (yhI h a eD) := by
  obtain ⟨d', rfl⟩ : ∃ d', d = d' + 2 := ⟨d - 2, by omega⟩
  have hM : xMet l G0 Y D dA base (d' + 2) 401 [.ref a] h none (yh4 h a) := by
    obtain ⟨N, hN⟩ := y_401 (d := d') (pF := ypN) (a := a) (h := h) rfl rfl ht
    exact x_all ypN_ok kk_hk (d' + 2) _ _ _ _ _ (hN N (Nat.le_refl _))
  refine x_metW yxm_9 (by decide +kernel) (Nat.le_of_ble_eq_true rfl) (Nat.le_refl _) (Nat.le_refl _) ?_
  intro p e R s m below meth c ls H hx hb hml hown hts hK hlk hnm hret hbase hF1 hF2 hC1 hC2 hl hR
  have hown : s.vm.findClass (xOwn 3) = some m.cls := by rw [show xOwn 3 = (xMn 9).cls from by decide +kernel]; exact hown
  have hows : s.vm.findClass "java/util/ArrayList" = some m.cls := by rw [show "java/util/ArrayList" = xOwn 3 from by decide +kernel]; exact hown
  have hyy := hY s hK.y
  refine y_p hx hb hown hts hK hR kO9 (i := .aload_n 0) (len := 1) rfl (Or.inr rfl) hl rfl (fun ls1 hl1 => ?_)
  refine x_inis (d := d' + 2) (t0 := h.2.1) (u0 := h.2.2) (o := 3) (idx := 1) (y := 401) (cF := xone 401 [.ref a] h (none, yh4 h a)) (pc' := 4) (lv := lv_args 0 [.ref a]) (lv' := lv_args 0 [.ref a]) (st' := []) (h' := yh4 h a) hx hb hml hown hts hK hR hbase (by omega) (by omega)
    (xone_ok (P := fun (y : Nat) (as : List Value) (h : xH) (r : Option Value) (h' : xH) => xMet l G0 Y D dA base (d' + 2) y as h r h') hM) (Nat.le_refl _) (Nat.le_refl _) (fun q hq => absurd hq List.not_mem_nil) (Or.inl ymr_3_1) (y_dec kO9 rfl) hl1 ?_ hC1 hC2 (fun _ H' locs' hR' hL' => ?_)
  · have hn : xnargs 401 = 0 := yna_401
    simp only [xini, hn, List.drop, List.take, List.reverse_nil, xcall1]
    rw [if_pos ⟨Nat.zero_le _, ywi_401⟩, if_pos (Nat.le_of_ble_eq_true rfl), xone_at]
    rfl
  refine y_p hx hb hown hts hK hR' kO9 (i := .aload_n 0) (len := 1) rfl (Or.inr rfl) hl1 rfl (fun ls2 hl2 => ?_)
  refine y_gets hx hb hows hts hyy hR' (y_dec kO9 rfl) ?_
  refine x_rest (pF := ypN) (t0 := h.2.1) (u0 := h.2.2) (o := 3) (ini := false) (rr := none) (h' := yhI h a eD) (f := (8, lv_args 0 [.ref a], [.ref eD, .ref a], yh4 h a)) hx hb hml hown hts hK (fun z => absurd z (by decide)) hlk hret hF1 hF2 ypN_ok kO9 hC1 hC2 rfl rfl ?_ hbase (Nat.le_refl _) (Nat.le_refl _) hl2 hR' hL'
  have e4 : (yh4 h a).1 a = (4, (h.1 a).2.1, updV (h.1 a).2.2 0 (.int 0)) := by unfold yh4; simp only [xset, if_true]
  refine yE_putE (h' := yhI h a eD) yl9_8 rfl (by rw [e4]) ?_ ?_
  · rw [e4]
    unfold yhI yh4
    refine Prod.ext (funext fun q => ?_) rfl
    simp only [xset]
    split <;> rfl
  exact eE_end yl9_11 rfl rfl rfl
end YI
