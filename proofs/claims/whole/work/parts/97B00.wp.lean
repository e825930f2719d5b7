/-! running -/
def WP {α : Type} (m : Option α) (Q : α → Prop) : Prop := ∃ x, m = some x ∧ Q x
theorem WP_some {α : Type} {x : α} {Q : α → Prop} (h : Q x) : WP (some x) Q := ⟨x, rfl, h⟩
theorem WP_call {α β : Type} {m : Option α} {g : α → Option β} {Q1 : α → Prop} {Q : β → Prop} (hm : WP m Q1) (k : ∀ x, Q1 x → WP (g x) Q) : WP (m.bind g) Q := by
  obtain ⟨x, hx, h1⟩ := hm
  rw [hx]
  exact k x h1
theorem WP_eq {α β : Type} {m : Option α} {x : α} {g : α → Option β} {Q : β → Prop} (hm : m = some x) (k : WP (g x) Q) : WP (m.bind g) Q := by
  rw [hm]
  exact k
theorem WP_mono {α : Type} {m : Option α} {Q Q' : α → Prop} (h : WP m Q) (k : ∀ x, Q x → Q' x) : WP m Q' := by
  obtain ⟨x, hx, h1⟩ := h
  exact ⟨x, hx, k x h1⟩
theorem WP_if {α : Type} {c : Prop} [Decidable c] {p : Prop} {x y : Option α} {Q : α → Prop} (e : c ↔ p) (h1 : p → WP x Q) (h2 : ¬ p → WP y Q) : WP (if c then x else y) Q := by
  by_cases q : c
  · rw [if_pos q]
    exact h1 (e.mp q)
  · rw [if_neg q]
    exact h2 (fun z => q (e.mpr z))
theorem c2_eq {a b : Int32} : xc2 .eq a b = true ↔ a = b := by simp [xc2]
theorem c2_ne {a b : Int32} : xc2 .ne a b = true ↔ ¬ a = b := by simp [xc2]
theorem c2_lt {a b : Int32} : xc2 .lt a b = true ↔ a < b := by simp [xc2]
theorem c2_ge {a b : Int32} : xc2 .ge a b = true ↔ b ≤ a := by simp [xc2]
theorem c2_gt {a b : Int32} : xc2 .gt a b = true ↔ b < a := by simp [xc2]
theorem c2_le {a b : Int32} : xc2 .le a b = true ↔ a ≤ b := by simp [xc2]
theorem c0_eq {a : Int32} : xc0 .eq a = true ↔ a = 0 := by simp [xc0]
theorem c0_ne {a : Int32} : xc0 .ne a = true ↔ ¬ a = 0 := by simp [xc0]
theorem c0_lt {a : Int32} : xc0 .lt a = true ↔ a < 0 := by simp [xc0]
theorem c0_ge {a : Int32} : xc0 .ge a = true ↔ 0 ≤ a := by simp [xc0]
theorem c0_gt {a : Int32} : xc0 .gt a = true ↔ 0 < a := by simp [xc0]
theorem c0_le {a : Int32} : xc0 .le a = true ↔ a ≤ 0 := by simp [xc0]
def sc7 : List Nat := [31, 32, 45, 46, 47, 52, 53, 54, 55, 56, 57, 58, 64, 65, 67, 69, 70, 71, 72, 73, 74, 75, 76, 77, 78, 79, 80, 81, 82, 83]
def sc49 : List Nat := [86, 87, 88, 89, 90, 91, 92, 93]
def sc8 : List Nat := [124, 125, 126, 127, 128, 129, 130, 131, 137]
def sc0 : List Nat := [0, 1, 2, 3, 21, 22, 24, 25, 26, 141, 145]
theorem sc7_l : ∀ f ∈ sc7, rlen f = 7 ∧ f ∈ scF := by decide +kernel
theorem sc49_l : ∀ f ∈ sc49, rlen f = 49 ∧ f ∈ scF := by decide +kernel
theorem sc8_l : ∀ f ∈ sc8, rlen f = 8 ∧ f ∈ scF := by decide +kernel
theorem sc0_l : ∀ f ∈ sc0, rlen f = 0 ∧ f ∈ scF ∧ f ∈ freeF := by decide +kernel
theorem RM_0 {σ : RS} {a : AA} {u : AU} {f : Nat} (h : RM σ a u) (hf : f ∈ sc0) : σ.1 f 0 = aS a f 0 := h.1.1 f (sc0_l f hf).2.1 0 (by omega)
theorem RM_7 {σ : RS} {a : AA} {u : AU} {f s : Nat} (h : RM σ a u) (hf : f ∈ sc7) (hs : s < 7) : σ.1 f s = aS a f s := h.1.1 f (sc7_l f hf).2 s (by rw [(sc7_l f hf).1]; omega)
theorem RM_49 {σ : RS} {a : AA} {u : AU} {f s : Nat} (h : RM σ a u) (hf : f ∈ sc49) (hs : s < 49) : σ.1 f s = aS a f s := h.1.1 f (sc49_l f hf).2 s (by rw [(sc49_l f hf).1]; omega)
theorem RM_8 {σ : RS} {a : AA} {u : AU} {f s : Nat} (h : RM σ a u) (hf : f ∈ sc8) (hs : s < 8) : σ.1 f s = aS a f s := h.1.1 f (sc8_l f hf).2 s (by rw [(sc8_l f hf).1]; omega)
theorem WP_r7 {σ : RS} {a : AA} {u : AU} {f s : Nat} {β : Type} {g : Int32 → Option β} {Q : β → Prop} (h : RM σ a u) (hf : f ∈ sc7) (hs : s < 7) (k : WP (g (aS a f s)) Q) : WP ((rld σ f (Int32.ofNat s)).bind g) Q :=
  WP_eq (rld_n rfl (by rw [(sc7_l f hf).1]; exact hs)) (by rw [RM_7 h hf hs]; exact k)
theorem WP_w7 {σ : RS} {a : AA} {u : AU} {f s : Nat} {v : Int32} {β : Type} {g : RS → Option β} {Q : β → Prop} (h : RM σ a u) (hf : f ∈ sc7) (hf2 : f ∈ freeF) (hs : s < 7) (k : ∀ σ', RM σ' (aI a f s v) u → WP (g σ') Q) : WP ((rst σ f (Int32.ofNat s) v).bind g) Q :=
  WP_eq (rst_n rfl (by rw [(sc7_l f hf).1]; exact hs)) (k _ (RM_I h hf2))
theorem WP_r49 {σ : RS} {a : AA} {u : AU} {f s : Nat} {β : Type} {g : Int32 → Option β} {Q : β → Prop} (h : RM σ a u) (hf : f ∈ sc49) (hs : s < 49) (k : WP (g (aS a f s)) Q) : WP ((rld σ f (Int32.ofNat s)).bind g) Q :=
  WP_eq (rld_n rfl (by rw [(sc49_l f hf).1]; exact hs)) (by rw [RM_49 h hf hs]; exact k)
theorem WP_w49 {σ : RS} {a : AA} {u : AU} {f s : Nat} {v : Int32} {β : Type} {g : RS → Option β} {Q : β → Prop} (h : RM σ a u) (hf : f ∈ sc49) (hf2 : f ∈ freeF) (hs : s < 49) (k : ∀ σ', RM σ' (aI a f s v) u → WP (g σ') Q) : WP ((rst σ f (Int32.ofNat s) v).bind g) Q :=
  WP_eq (rst_n rfl (by rw [(sc49_l f hf).1]; exact hs)) (k _ (RM_I h hf2))
theorem WP_r8 {σ : RS} {a : AA} {u : AU} {f s : Nat} {β : Type} {g : Int32 → Option β} {Q : β → Prop} (h : RM σ a u) (hf : f ∈ sc8) (hs : s < 8) (k : WP (g (aS a f s)) Q) : WP ((rld σ f (Int32.ofNat s)).bind g) Q :=
  WP_eq (rld_n rfl (by rw [(sc8_l f hf).1]; exact hs)) (by rw [RM_8 h hf hs]; exact k)
theorem WP_w8 {σ : RS} {a : AA} {u : AU} {f s : Nat} {v : Int32} {β : Type} {g : RS → Option β} {Q : β → Prop} (h : RM σ a u) (hf : f ∈ sc8) (hf2 : f ∈ freeF) (hs : s < 8) (k : ∀ σ', RM σ' (aI a f s v) u → WP (g σ') Q) : WP ((rst σ f (Int32.ofNat s) v).bind g) Q :=
  WP_eq (rst_n rfl (by rw [(sc8_l f hf).1]; exact hs)) (k _ (RM_I h hf2))
theorem WP_w73 {σ : RS} {a : AA} {u : AU} {s : Nat} {v : Int32} {β : Type} {g : RS → Option β} {Q : β → Prop} (h : RM σ a u) (hs : s < 7) (hv : ¬ v = 3 ∨ ¬ u.2 (7 + s)) (k : ∀ σ', RM σ' (aI a 73 s v) u → WP (g σ') Q) : WP ((rst σ 73 (Int32.ofNat s) v).bind g) Q :=
  WP_eq (rst_n rfl (by rw [(sc7_l 73 (by decide)).1]; exact hs)) (k _ (RM_73 h hv))
theorem WP_wmk {σ : RS} {a : AA} {u : AU} {f s : Nat} {v : Int32} {β : Type} {g : RS → Option β} {Q : β → Prop} (h : RM σ a u) (hf : f = 75 ∨ f = 76 ∨ f = 77) (hs : s < 7) (hv : u.2 (14 + s) → WMk a s → WMk (aI a f s v) s) (k : ∀ σ', RM σ' (aI a f s v) u → WP (g σ') Q) : WP ((rst σ f (Int32.ofNat s) v).bind g) Q :=
  WP_eq (rst_n rfl (by rw [(sc7_l f (by rcases hf with rfl | rfl | rfl <;> decide)).1]; exact hs)) (k _ (RM_mk h hf hv))
theorem WP_wld {σ : RS} {a : AA} {u : AU} {f s p : Nat} {v : Int32} {β : Type} {g : RS → Option β} {Q : β → Prop} (h : RM σ a u) (hs : s < 7) (hp : p < 7) (hf : f = 86 ∨ f = 87 ∨ f = 88 ∨ f = 90) (hv : u.2 (7 + s) → aS a 73 s = 3 → WLd a s → (f = 86 → 1 ≤ v ∧ v ≤ aLast a s + 1) ∧ (f = 87 → v ≤ aLast a s) ∧ (f = 90 → 0 ≤ v ∧ v ≤ aS a 67 s) ∧ (f = 88 → 0 ≤ v)) (k : ∀ σ', RM σ' (aI a f (7 * s + p) v) u → WP (g σ') Q) : WP ((rst σ f (Int32.ofNat (7 * s + p)) v).bind g) Q :=
  WP_eq (rst_n rfl (by rw [(sc49_l f (by rcases hf with rfl | rfl | rfl | rfl <;> decide)).1]; omega)) (k _ (RM_ld h hp hf hv))
theorem WP_w0 {σ : RS} {a : AA} {u : AU} {f : Nat} {v : Int32} {β : Type} {g : RS → Option β} {Q : β → Prop} (h : RM σ a u) (hf : f ∈ sc0) (k : ∀ σ', RM σ' (aI a f 0 v) u → WP (g σ') Q) : WP ((some (setI σ f 0 v)).bind g) Q := k _ (RM_I h (sc0_l f hf).2.2)
/-! alarms, soil -/
theorem RM_L84 {σ : RS} {a : AA} {u : AU} {s : Nat} {v : Int64} (h : RM σ a u) : RM (setL σ 84 s v) (aJ a 84 s v) u := by
  have hF : Fr [] [84] σ (setL σ 84 s v) := Fr_L
  have hs : RSc (setL σ 84 s v) (aJ a 84 s v) := by
    refine ⟨h.1.1, h.1.2.1, fun t ht => ?_⟩
    show (if _ then _ else _) = (if _ then _ else _)
    by_cases q : 84 = 84 ∧ t = s
    · rw [if_pos q, if_pos q]
    · rw [if_neg q, if_neg q]
      exact h.1.2.2 t ht
  exact ⟨hs, RWay_fr hF (by decide) h.2.1, fun s hs => RWt_fr hF (by decide) (h.2.2.1 s hs), fun l hl => RLt_fr hF (by decide) (h.2.2.2.1 l hl), fun s hs => RLog_fr hF (by decide) (h.2.2.2.2.1 s hs), fun s hs => RDk_fr hF (by decide) (h.2.2.2.2.2.1 s hs), fun s hs => RSl_fr hF (by decide) (h.2.2.2.2.2.2.1 s hs), fun s hs hu => RCh_fr hF (by decide) (h.2.2.2.2.2.2.2.1 s hs hu), fun s hs hu => RAt_fr hF (by decide) (h.2.2.2.2.2.2.2.2.1 s hs hu), fun s hs => RMc_fr hF (by decide) (h.2.2.2.2.2.2.2.2.2.1 s hs), fun s hs => RSh_fr hF (by decide) (h.2.2.2.2.2.2.2.2.2.2.1 s hs), fun s hs => RPc_fr hF (by decide) (h.2.2.2.2.2.2.2.2.2.2.2.1 s hs), fun s hs => RRq_fr hF (by decide) (h.2.2.2.2.2.2.2.2.2.2.2.2.1 s hs), RAk_fr hF (by decide) h.2.2.2.2.2.2.2.2.2.2.2.2.2.1, fun s hs => RWn_fr hF (by decide) (h.2.2.2.2.2.2.2.2.2.2.2.2.2.2.1 s hs), RTp_fr hF (by decide) h.2.2.2.2.2.2.2.2.2.2.2.2.2.2.2.1, RRe_fr hF (by decide) h.2.2.2.2.2.2.2.2.2.2.2.2.2.2.2.2.1, fun s hs => RDn_fr hF (by decide) (h.2.2.2.2.2.2.2.2.2.2.2.2.2.2.2.2.2.1 s hs), RSum_fr hF (by decide) h.2.2.2.2.2.2.2.2.2.2.2.2.2.2.2.2.2.2.1, h.2.2.2.2.2.2.2.2.2.2.2.2.2.2.2.2.2.2.2.1, h.2.2.2.2.2.2.2.2.2.2.2.2.2.2.2.2.2.2.2.2.1, h.2.2.2.2.2.2.2.2.2.2.2.2.2.2.2.2.2.2.2.2.2.1, h.2.2.2.2.2.2.2.2.2.2.2.2.2.2.2.2.2.2.2.2.2.2.1, h.2.2.2.2.2.2.2.2.2.2.2.2.2.2.2.2.2.2.2.2.2.2.2⟩
theorem RM_L28 {σ : RS} {a : AA} {u : AU} {v : Int64} (h : RM σ a u) : RM (setL σ 28 0 v) (aJ a 28 0 v) u := by
  have hF : Fr [] [28] σ (setL σ 28 0 v) := Fr_L
  exact ⟨⟨h.1.1, rfl, h.1.2.2⟩, RWay_fr hF (by decide) h.2.1, fun s hs => RWt_fr hF (by decide) (h.2.2.1 s hs), fun l hl => RLt_fr hF (by decide) (h.2.2.2.1 l hl), fun s hs => RLog_fr hF (by decide) (h.2.2.2.2.1 s hs), fun s hs => RDk_fr hF (by decide) (h.2.2.2.2.2.1 s hs), fun s hs => RSl_fr hF (by decide) (h.2.2.2.2.2.2.1 s hs), fun s hs hu => RCh_fr hF (by decide) (h.2.2.2.2.2.2.2.1 s hs hu), fun s hs hu => RAt_fr hF (by decide) (h.2.2.2.2.2.2.2.2.1 s hs hu), fun s hs => RMc_fr hF (by decide) (h.2.2.2.2.2.2.2.2.2.1 s hs), fun s hs => RSh_fr hF (by decide) (h.2.2.2.2.2.2.2.2.2.2.1 s hs), fun s hs => RPc_fr hF (by decide) (h.2.2.2.2.2.2.2.2.2.2.2.1 s hs), fun s hs => RRq_fr hF (by decide) (h.2.2.2.2.2.2.2.2.2.2.2.2.1 s hs), RAk_fr hF (by decide) h.2.2.2.2.2.2.2.2.2.2.2.2.2.1, fun s hs => RWn_fr hF (by decide) (h.2.2.2.2.2.2.2.2.2.2.2.2.2.2.1 s hs), RTp_fr hF (by decide) h.2.2.2.2.2.2.2.2.2.2.2.2.2.2.2.1, RRe_fr hF (by decide) h.2.2.2.2.2.2.2.2.2.2.2.2.2.2.2.2.1, fun s hs => RDn_fr hF (by decide) (h.2.2.2.2.2.2.2.2.2.2.2.2.2.2.2.2.2.1 s hs), RSum_fr hF (by decide) h.2.2.2.2.2.2.2.2.2.2.2.2.2.2.2.2.2.2.1, h.2.2.2.2.2.2.2.2.2.2.2.2.2.2.2.2.2.2.2.1, h.2.2.2.2.2.2.2.2.2.2.2.2.2.2.2.2.2.2.2.2.1, h.2.2.2.2.2.2.2.2.2.2.2.2.2.2.2.2.2.2.2.2.2.1, h.2.2.2.2.2.2.2.2.2.2.2.2.2.2.2.2.2.2.2.2.2.2.1, h.2.2.2.2.2.2.2.2.2.2.2.2.2.2.2.2.2.2.2.2.2.2.2⟩
theorem M_alarm {σ : RS} {a : AA} {u : AU} {e : Nat} {t : Int32} (h : RM σ a u) (he : e < 16) : WP (m_alarm σ (Int32.ofNat e) t) (fun σ' => RM σ' (A_alarm a e t) u) := by
  rw [m_alarm_n he, RM_0 h (by decide)]
  exact WP_some (RM_I (RM_I (RM_I h (by decide)) (by decide)) (by decide))
theorem M_drawAlarm {σ : RS} {a : AA} {u : AU} {s : Nat} (h : RM σ a u) (hs : s < 7) : WP (m_drawAlarm σ (Int32.ofNat s)) (fun σ' => RM σ' (A_drawAlarm a s) u) := by
  rw [m_drawAlarm_n hs, RM_0 (f := 2) h (by decide), RM_0 (f := 1) h (by decide), h.1.2.2 s hs]
  exact WP_some (RM_I (RM_I (RM_I (RM_L84 h) (by decide)) (by decide)) (by decide))
theorem M_soil {σ : RS} {a : AA} {u : AU} {s : Nat} (h : RM σ a u) (hs : s < 7) : WP (m_soil σ (Int32.ofNat s)) (fun σ' => RM σ' (aSoil a s) u) := by
  rw [m_soil_n hs, RM_0 (f := 2) h (by decide), RM_0 (f := 1) h (by decide), RM_7 (f := 71) h (by decide) hs, RM_7 (f := 72) h (by decide) hs]
  unfold aSoil
  by_cases q : aS a 71 s = 0
  · rw [if_pos q, if_pos q]
    exact WP_some (RM_I (RM_I (RM_I (RM_I h (by decide)) (by decide)) (by decide)) (by decide))
  · rw [if_neg q, if_neg q]
    exact WP_some h
