/-! what the interpreter does with writes and calls, the machine does -/
theorem x_nm (ci : Nat) (h3 : 3 ≤ ci) (h : ci < 17) : (∀ k, k < (xCl ci).2.2 → ∃ ty, xfty ci k = some ty) ∧ ∀ a, a < (xCl ci).2.2 → ∀ b, b < (xCl ci).2.2 → a ≠ b → ((xCl ci).2.1 a).2.1 ≠ ((xCl ci).2.1 b).2.1 := by
  match ci, h3, h with
  | 3, _, _ => exact ⟨fun k hk => ⟨_, tyJx4a65c_ok k hk⟩, nmJx4a65c⟩
  | 4, _, _ => exact ⟨fun k hk => ⟨_, tyX0_ok k hk⟩, nmX0⟩
  | 5, _, _ => exact ⟨fun k hk => ⟨_, tyX1_ok k hk⟩, nmX1⟩
  | 6, _, _ => exact ⟨fun k hk => ⟨_, tyX2_ok k hk⟩, nmX2⟩
  | 7, _, _ => exact ⟨fun k hk => ⟨_, tyX3_ok k hk⟩, nmX3⟩
  | 8, _, _ => exact ⟨fun k hk => ⟨_, tyX4_ok k hk⟩, nmX4⟩
  | 9, _, _ => exact ⟨fun k hk => ⟨_, tyX5_ok k hk⟩, nmX5⟩
  | 10, _, _ => exact ⟨fun k hk => ⟨_, tyX6_ok k hk⟩, nmX6⟩
  | 11, _, _ => exact ⟨fun k hk => ⟨_, tyX7_ok k hk⟩, nmX7⟩
  | 12, _, _ => exact ⟨fun k hk => ⟨_, tyX8_ok k hk⟩, nmX8⟩
  | 13, _, _ => exact ⟨fun k hk => ⟨_, tyX9_ok k hk⟩, nmX9⟩
  | 14, _, _ => exact ⟨fun k hk => ⟨_, tyX10_ok k hk⟩, nmX10⟩
  | 15, _, _ => exact ⟨fun k hk => ⟨_, tyX11_ok k hk⟩, nmX11⟩
  | 16, _, _ => exact ⟨fun k hk => ⟨_, tyX12_ok k hk⟩, nmX12⟩
  | 0, h, _ => exact absurd h (by omega)
  | 1, h, _ => exact absurd h (by omega)
  | 2, h, _ => exact absurd h (by omega)
  | n + 17, _, h => exact absurd h (by omega)
theorem x_fit {ty : FieldType} {v : Value} (h : xfit ty v = true) : narrow ty v = v ∧ fits ty v = true := by
  cases ty <;> cases v <;> simp [xfit] at h <;> first
    | exact ⟨rfl, rfl⟩
    | (rcases h with rfl | rfl <;> exact ⟨rfl, rfl⟩)
theorem xcellR.kept {D : va_G} {dA : Nat → ClassId} {base a : Nat} {x : xC} {H H1 : Heap} (h : xcellR D dA base a x H) (hq : H1[a]? = H[a]?) : xcellR D dA base a x H1 := by
  rcases h with ⟨h1, h2, h3, h4⟩ | ⟨h1, h2, h3, h4, h5⟩ | ⟨h1, scr, h2, h3⟩
  · exact Or.inl ⟨h1, h2, h3, h4.kept hq⟩
  · exact Or.inr (Or.inl ⟨h1, h2, h3, hq.trans h4, h5⟩)
  · exact Or.inr (Or.inr ⟨h1, scr, hq.trans h2, h3⟩)
theorem xRp.set {G0 : Heap} {D : va_G} {dA : Nat → ClassId} {base : Nat} {h : xH} {H H1 : Heap} (hR : xRp G0 D dA base h H) {a : Nat} {x : xC} (hb : base ≤ a) (hz : H1.size = H.size) (oq : ∀ q, q ≠ a → H1[q]? = H[q]?) (hc : xcellR D dA base a x H1) : xRp G0 D dA base (xset h.1 a x, h.2) H1 := by
  refine ⟨hz.trans hR.1, fun q hq => ?_, fun q hq => (oq q (by omega)).trans (hR.2.2 q hq)⟩
  simp only [xset] at hq ⊢
  by_cases e : q = a
  · subst e
    rw [if_pos rfl]; exact hc
  · rw [if_neg e] at hq ⊢
    exact (hR.2.1 q hq).kept (oq q e)
theorem xRp.push {G0 : Heap} {D : va_G} {dA : Nat → ClassId} {base : Nat} {h : xH} {H H1 : Heap} (hR : xRp G0 D dA base h H) {x : xC} {n : Nat} (hb : base ≤ h.2.1) (hz : H1.size = h.2.1 + 1) (oq : ∀ q, q < h.2.1 → H1[q]? = H[q]?) (hc : xcellR D dA base h.2.1 x H1) : xRp G0 D dA base (xset h.1 h.2.1 x, h.2.1 + 1, n) H1 := by
  refine ⟨hz, fun q hq => ?_, fun q hq => (oq q (by omega)).trans (hR.2.2 q hq)⟩
  simp only [xset] at hq ⊢
  by_cases e : q = h.2.1
  · subst e
    rw [if_pos rfl]; exact hc
  · rw [if_neg e] at hq ⊢
    have hk := hR.2.1 q hq
    refine hk.kept (oq q ?_)
    have hlt : q < H.size := by
      rcases hk with ⟨-, -, -, cell, h4, -⟩ | ⟨-, -, -, h4, -⟩ | ⟨-, scr, h4, -⟩
      · exact (Array.getElem?_eq_some_iff.mp h4).1
      · exact (Array.getElem?_eq_some_iff.mp h4).1
      · exact (Array.getElem?_eq_some_iff.mp h4).1
    rw [hR.1] at hlt; exact hlt
/-- a callee's contract -/
def xMet (l : Launch) (G0 : Heap) (Y : State → Prop) (D : va_G) (dA : Nat → ClassId) (base d y : Nat) (as : List Value) (h : xH) (r : Option Value) (h' : xH) : Prop :=
  ∃ (bytes : ByteArray) (ml : Nat) (ret : Option FieldType) (n : Nat), xM y = some (bytes, ml, ret, n) ∧ h.2.1 ≤ h'.2.1 ∧ h.2.2 ≤ h'.2.2 ∧
    Met l (xMn y) (Jvm.Cond.code (xMn y) bytes ml ret :: xALL) ({ frames := d, cells := h'.2.1 - h.2.1, slots := h'.2.2 - h.2.2, locals := 60 * d })
      (fun a U => a = as.toArray ∧ base ≤ h.2.1 ∧ xRp G0 D dA base h U.heap ∧ xKn Y D dA U) (fun _ _ o t => o = .returned r ∧ xRp G0 D dA base h' t.heap) (h'.2.1 - h.2.1) (h'.2.2 - h.2.2) (fun q => base ≤ q)
theorem x_xM {y : Nat} {q : ByteArray × Nat × Option FieldType × Nat} (h : xM y = some q) : Jvm.Cond.code (xMn y) q.1 q.2.1 q.2.2.1 ∈ xALL := xALL_g (xMs_in _ (List.mem_map.mpr ⟨_, x_look h, rfl⟩)) rfl
theorem x_Ms_ok : ∀ q ∈ xMs, q.2.2.1 ≤ 41 ∧ (parseMethodDescriptor (xMn q.1).desc).map (fun d => d.parameters.length) = some q.2.2.2.2 ∧ ((xMn q.1).cls ≠ "java/lang/invoke/MethodHandle" ∧ (xMn q.1).cls ≠ "java/lang/invoke/VarHandle") ∧ (xMn q.1).cls ∈ xIni.map xOwn := by decide +kernel
theorem x_ini {C : String} (h : C ∈ xIni.map xOwn) : Jvm.Cond.initialized C ∈ xALL := by
  obtain ⟨i, hi, rfl⟩ := List.mem_map.mp h
  exact xALL_g (xIni_in _ (List.mem_map.mpr ⟨i, hi, rfl⟩)) rfl
theorem x_mR {o idx y : Nat} (h : xmR o idx = some y) : Jvm.Cond.methodLink (xOwn o) idx (xMn y) ∈ xALL := xALL_g (xmT_in _ (List.mem_map.mpr ⟨_, x_look h, rfl⟩)) rfl
theorem x_cont {α : Type} [BEq α] [LawfulBEq α] {l : List α} {a : α} (h : l.contains a = true) : a ∈ l := by simpa using h
theorem x_pay {args : Array Value} {s : State} (hts : ∀ w ∈ xALL, w.before args s = true) {w0 : Jvm.Cond} (h0 : w0 ∈ xALL) : ∀ w ∈ w0 :: xALL, ∀ (a' : Array Value) (U : State), s.WarmedH U.vm → w.before a' U = true := by
  intro w hw
  have h1 : w ∈ xALL := by
    rcases List.mem_cons.mp hw with rfl | h
    · exact h0
    · exact h
  exact fun a' U hW => word_at hW (good_of_word (List.mem_filter.mp h1).2) (hts w h1)
section XS3
variable {p : Program} {l : Launch} {e : Env} {R : Room} {s : State} {m : MethodId} {args : Array Value} {below : List Frame} {meth : Method} {c : Code} {H : Heap} {locs : List Loc} {cells slots : Nat} {Q : State → Prop}
variable {cc : ByteArray} {pc nL : Nat} {ls : Array Slot} {G0 : Heap} {Y : State → Prop} {D : va_G} {dA : Nat → ClassId} {base : Nat} {h : xH}
theorem x_ap (hts : ∀ w ∈ xALL, w.before args s = true) (hK : xKn Y D dA s) {ci : Nat} (h3 : 3 ≤ ci) (h17 : ci < 17) : ∀ x y, x < (xCl ci).2.2 → y < (xCl ci).2.2 → x ≠ y → (D.2 ci) x ≠ (D.2 ci) y := by
  obtain ⟨hty, hnm⟩ := x_nm ci h3 h17
  refine va_apart (own := "") hts (x_lay ci h3 h17) (fun k => (xfty ci k).getD .int) (fun k hk => ?_) hnm hK.1 (x_cl ci h17)
  obtain ⟨ty, h⟩ := hty k hk
  show xfty ci k = some ((xfty ci k).getD .int)
  rw [h]; rfl
theorem x_locs {locs : List Loc} {base a k : Nat} (hL : ∀ q ∈ locs, base ≤ q.base) (ha : base ≤ a) : ∀ q ∈ locs ++ [⟨a, k⟩], base ≤ q.base := by
  intro q hq
  rcases List.mem_append.mp hq with h | h
  · exact hL q h
  · rw [List.mem_singleton.mp h]; exact ha
/-- a call comes back -/
theorem x_back {t0 u0 : Nat} {h' : xH} {r : Option Value} {rest : List Value} {g : JFrame} (ht : t0 ≤ h.2.1) (hu : u0 ≤ h.2.2) (h1 : h.2.1 ≤ h'.2.1) (h2 : h.2.2 ≤ h'.2.2) (hL : ∀ q ∈ locs, base ≤ q.base)
    (hr : CallRun p l e R s m args below meth c H locs (h.2.1 - t0) (h.2.2 - u0) (h'.2.1 - h.2.1) (h'.2.2 - h.2.2) g rest (fun _ o t => o = .returned r ∧ xRp G0 D dA base h' t.heap) (fun q => base ≤ q))
    (kk : ∀ (H' : Heap) (locs' : List Loc), xRp G0 D dA base h' H' → (∀ q ∈ locs', base ≤ q.base) → W p l e R s m args below meth c H' locs' (h'.2.1 - t0) (h'.2.2 - u0) Q { g with pc := g.pc + 3, stack := r.toList ++ rest }) : W p l e R s m args below meth c H locs (h.2.1 - t0) (h.2.2 - u0) Q g := by
  intro T hT X
  obtain ⟨v, st₀, t, T', L, h0, X', hL', e1, ⟨hv, hR'⟩, st⟩ := hr T hT X
  cases hv
  rw [show h.2.1 - t0 + (h'.2.1 - h.2.1) = h'.2.1 - t0 by omega, show h.2.2 - u0 + (h'.2.2 - h.2.2) = h'.2.2 - u0 by omega] at X'
  obtain ⟨t2, a1, b1⟩ := kk t.heap (locs ++ L) hR' (fun q hq => (List.mem_append.mp hq).elim (hL q) (hL' q)) T' e1 X'
  exact ⟨t2, st t2 a1, b1⟩
theorem x_blind {as : List Value} : FrameBlind (fun a U => a = as.toArray ∧ base ≤ h.2.1 ∧ xRp G0 D dA base h U.heap ∧ xKn Y D dA U) := fun a U g mk q => ⟨q.1, q.2.1, q.2.2.1, q.2.2.2.same rfl⟩
theorem x_callB (hts : ∀ w ∈ xALL, w.before args s = true) {own : String} {index y d ml n mc ms : Nat} {bytes : ByteArray} {ret : Option FieldType} (hM : xM y = some (bytes, ml, ret, n)) (hR1 : d + 1 ≤ R.frames) (hR2 : 60 * (d + 1) ≤ R.locals)
    (hl : Jvm.Cond.methodLink own index (xMn y) ∈ xALL) : CallB R s args own index (xMn y) bytes ml ret (Jvm.Cond.code (xMn y) bytes ml ret :: xALL) ({ frames := d, cells := mc, slots := ms, locals := 60 * d }) mc ms n := by
  obtain ⟨q1, q2, q3, q4⟩ := x_Ms_ok _ (x_look hM)
  refine ⟨rfl, rfl, hR1, ?_, x_pay hts (x_xM hM), List.mem_cons_self, hts _ (x_xM hM), hts _ (x_ini q4), q3, fun sig h => ?_, hts _ hl⟩
  · show 8 + (ml + 11) + 60 * d ≤ R.locals
    have : ml ≤ 41 := q1
    omega
  · have q5 : (parseMethodDescriptor (xMn y).desc).map (fun d => d.parameters.length) = some n := q2
    rw [h] at q5
    exact (Option.some.inj q5).symm
theorem x_callN (hts : ∀ w ∈ xALL, w.before args s = true) (hK : xKn Y D dA s) {o index y d ml n mc ms : Nat} {bytes : ByteArray} {ret : Option FieldType} (hM : xM y = some (bytes, ml, ret, n)) (hR1 : d + 1 ≤ R.frames) (hR2 : 60 * (d + 1) ≤ R.locals)
    (hl : xnR o index = some y) : va_CN R s args (xOwn o) index (xMn y) "AgreedStore" bytes ml ret (Jvm.Cond.code (xMn y) bytes ml ret :: xALL) ({ frames := d, cells := mc, slots := ms, locals := 60 * d }) mc ms n := by
  obtain ⟨q1, q2, q3, q4⟩ := x_Ms_ok _ (x_look hM)
  refine ⟨⟨rfl, rfl, hR1, ?_, x_pay hts (x_xM hM), List.mem_cons_self⟩, hts _ (x_xM hM), hts _ (x_ini q4), q3, fun sig h => ?_, va_Nw.use rfl (hK.2.2.1 _ (x_look hl))⟩
  · show 8 + (ml + 11) + 60 * d ≤ R.locals
    have : ml ≤ 41 := q1
    omega
  · have q5 : (parseMethodDescriptor (xMn y).desc).map (fun d => d.parameters.length) = some n := q2
    rw [h] at q5
    exact (Option.some.inj q5).symm
end XS3
