/-! machines in the reference: a key is kept -/
def mOf (f i s : Nat) : Prop := ((f = 106 ∨ f = 113) ∧ i = s) ∨ (107 ≤ f ∧ f ≤ 111 ∧ i / 16 = s) ∨ (f = 112 ∧ i / 1792 = s) ∨ ((f = 114 ∨ f = 115 ∨ f = 118 ∨ f = 119) ∧ i / 128 = s) ∨ (f = 116 ∧ i / 4096 = s) ∨ (f = 117 ∧ i / 12800 = s)
/-- only a server's machine has changed -/
def SLm (s : Nat) (σ σ' : RS) : Prop := (∀ f i, ¬ mOf f i s → σ'.1 f i = σ.1 f i) ∧ σ'.2 = σ.2
theorem SLm_refl {s : Nat} {σ : RS} : SLm s σ σ := ⟨fun _ _ _ => rfl, rfl⟩
theorem SLm_I {s : Nat} {σ τ : RS} {f i : Nat} {v : Int32} (h : SLm s σ τ) (q : mOf f i s) : SLm s σ (setI τ f i v) := by
  refine ⟨fun g j hg => ?_, h.2⟩
  rw [← h.1 g j hg]
  exact if_neg (fun z => hg (by rw [z.1, z.2]; exact q))
theorem SLm_t {s : Nat} {σ τ τ' : RS} (h : SLm s σ τ) (h' : SLm s τ τ') : SLm s σ τ' := ⟨fun f i q => (h'.1 f i q).trans (h.1 f i q), h'.2.trans h.2⟩
theorem getD_ins {α : Type} {l : List α} {r i : Nat} {x d : α} (hr : r ≤ l.length) : (l.take r ++ x :: l.drop r).getD i d = if i < r then l.getD i d else if i = r then x else l.getD (i - 1) d := by
  have hl : (l.take r).length = r := by rw [List.length_take]; omega
  by_cases q : i < r
  · rw [if_pos q, List.getD_eq_getElem?_getD, List.getElem?_append_left (by omega), List.getElem?_take_of_lt q, List.getD_eq_getElem?_getD]
  · rw [if_neg q, List.getD_eq_getElem?_getD, List.getElem?_append_right (by omega), hl]
    by_cases q2 : i = r
    · rw [if_pos q2, q2, Nat.sub_self]
      rfl
    · rw [if_neg q2, show i - r = (i - r - 1) + 1 by omega, List.getElem?_cons_succ, List.getElem?_drop, List.getD_eq_getElem?_getD, show r + (i - r - 1) = i - 1 by omega]
theorem getD_rep {α : Type} {l : List α} {r i : Nat} {x d : α} (hr : r < l.length) : (l.take r ++ x :: l.drop (r + 1)).getD i d = if i = r then x else l.getD i d := by
  have hl : (l.take r).length = r := by rw [List.length_take]; omega
  by_cases q : i < r
  · rw [if_neg (by omega), List.getD_eq_getElem?_getD, List.getElem?_append_left (by omega), List.getElem?_take_of_lt q, List.getD_eq_getElem?_getD]
  · rw [List.getD_eq_getElem?_getD, List.getElem?_append_right (by omega), hl]
    by_cases q2 : i = r
    · rw [if_pos q2, q2, Nat.sub_self]
      rfl
    · rw [if_neg q2, show i - r = (i - r - 1) + 1 by omega, List.getElem?_cons_succ, List.getElem?_drop, List.getD_eq_getElem?_getD, show r + 1 + (i - r - 1) = i by omega]
theorem mem_ins {α : Type} {l : List α} {r : Nat} {x y : α} : y ∈ l.take r ++ x :: l.drop r ↔ y = x ∨ y ∈ l := by
  conv => rhs; rw [← List.take_append_drop r l]
  simp only [List.mem_append, List.mem_cons]
  constructor
  · rintro (h | h | h)
    · exact Or.inr (Or.inl h)
    · exact Or.inl h
    · exact Or.inr (Or.inr h)
  · rintro (h | h | h)
    · exact Or.inr (Or.inl h)
    · exact Or.inl h
    · exact Or.inr (Or.inr h)
theorem nodup_ins {l : List Nat} {r : Nat} {x : Nat} (h : l.Nodup) (hx : x ∉ l) : (l.take r ++ x :: l.drop r).Nodup := by
  have : (l.take r ++ x :: l.drop r).Perm (x :: l) := by
    conv => rhs; rw [← List.take_append_drop r l]
    exact List.perm_middle
  rw [this.nodup_iff]
  exact List.nodup_cons.mpr ⟨hx, h⟩
theorem and255 {x y : Int32} (hx : aLow8 x = x) (hy : aLow8 y = y) (h : x &&& 255 = y &&& 255) : x = y := by
  rw [← hx, ← hy]
  apply Int32.toBitVec_inj.mp
  have hb : ∀ i, i < 8 → x.toBitVec.getLsbD i = y.toBitVec.getLsbD i := by
    intro i hi
    have this : (x &&& 255).toBitVec.getLsbD i = (y &&& 255).toBitVec.getLsbD i := by rw [h]
    rw [m255_bit, m255_bit, decide_eq_true hi, Bool.and_true, Bool.and_true] at this
    exact this
  have h8 : x.toInt8 = y.toInt8 := by
    apply Int8.toBitVec_inj.mp
    apply BitVec.eq_of_getLsbD_eq
    intro i hi
    have e := fun z : Int32 => lo_bit (y := z) hi
    have e2 : ∀ z : Int32, z.toInt8.toBitVec.getLsbD i = z.toBitVec.getLsbD i := by
      intro z
      rw [Int32.toBitVec_toInt8]
      show (BitVec.signExtend 8 z.toBitVec).getLsbD i = _
      rw [BitVec.getLsbD_signExtend, if_pos (by omega), decide_eq_true hi, Bool.true_and]
    rw [e2, e2]
    exact hb i hi
  unfold aLow8
  rw [h8]
theorem aCmp_0 : ∀ x y : List Int32, (∀ b ∈ x, aLow8 b = b) → (∀ b ∈ y, aLow8 b = b) → x.length ≤ 300 → y.length ≤ 300 → aCmp x y = 0 → x = y := by
  intro x
  induction x with
  | nil =>
    intro y _ _ _ hl h
    have h : 0 - Int32.ofNat y.length = 0 := h
    rw [i_sub0, show (0 : Int32) = Int32.ofNat 0 from rfl, i_eqi (by omega) (by omega)] at h
    exact (List.eq_nil_of_length_eq_zero h.symm).symm
  | cons a r ih =>
    intro y h1 h2 h3 h4 h
    cases y with
    | nil =>
      have h : Int32.ofNat (r.length + 1) = 0 := h
      rw [show (0 : Int32) = Int32.ofNat 0 from rfl, i_eqi (by simp at h3; omega) (by omega)] at h
      omega
    | cons b q =>
      have h : (if (a &&& 255) - (b &&& 255) = 0 then aCmp r q else (a &&& 255) - (b &&& 255)) = 0 := h
      by_cases z : (a &&& 255) - (b &&& 255) = 0
      · rw [if_pos z] at h
        rw [and255 (h1 a List.mem_cons_self) (h2 b List.mem_cons_self) (i_sub0.mp z), ih q (fun x hx => h1 x (List.mem_cons_of_mem _ hx)) (fun x hx => h2 x (List.mem_cons_of_mem _ hx)) (by simp at h3; omega) (by simp at h4; omega) h]
      · rw [if_neg z] at h
        exact absurd h z
/-- the value of a slot is laid: the loop behind valueSize -/
theorem kp274 {F : Nat} {σ : RS} {s q fr : Nat} {v : List Int32} (hq : q < 896) (hs : q / 128 = s) (hv : v.length ≤ 100) (hf : fr + v.length ≤ 917504) (hsrc : ∀ j, j < v.length → rB (σ.2 63) (fr + j) = v.getD j 0) :
    ∀ n j (τ : RS), v.length + 1 ≤ j + n → j ≤ v.length → SLm s σ τ → (∀ f i, ¬ (f = 117 ∧ i / 100 = q) → τ.1 f i = σ.1 f i) → (∀ i, i < j → τ.1 117 (100 * q + i) = v.getD i 0) →
      WP (m_keep_b274 F n τ (Int32.ofNat fr) (Int32.ofNat v.length) (Int32.ofNat q) (Int32.ofNat j)) (fun p => p.1 = 1 ∧ SLm s σ p.2 ∧ (∀ f i, ¬ (f = 117 ∧ i / 100 = q) → p.2.1 f i = σ.1 f i) ∧ ∀ i, i < v.length → p.2.1 117 (100 * q + i) = v.getD i 0) := by
  intro n
  induction n with
  | zero => intro j τ h1 h2; omega
  | succ n ih =>
    intro j τ h1 h2 h3 h4 h5
    unfold m_keep_b274
    refine WP_if (i_gei (by omega) (by omega)) (fun y => ?_) (fun y => ?_)
    · have : j = v.length := by omega
      subst this
      rw [if_pos (by decide)]
      exact WP_some ⟨rfl, h3, h4, h5⟩
    · rw [i_ad]
      refine WP_eq (m_inLog_n (by omega)) ?_
      rw [h3.2, hsrc j (by omega)]
      refine WP_st (n := 100 * q + j) i_ma 89600 (by decide +kernel) (by omega) ?_
      rw [i_s]
      have hb : (v.getD j 0).toInt8.toInt32 = v.getD j 0 := by
        rw [← hsrc j (by omega)]
        exact i_b8
      rw [hb]
      refine ih (j + 1) _ (by omega) (by omega) (SLm_I h3 (by unfold mOf; omega)) (fun f i hfi => ?_) (fun i hi => ?_)
      · rw [← h4 f i hfi]
        exact if_neg (fun z => hfi ⟨z.1, by omega⟩)
      · by_cases y2 : i = j
        · rw [y2, setI_e]
        · rw [setI_i (by omega)]
          exact h5 i (by omega)
theorem kp262 {F : Nat} {σ : RS} {s q fr : Nat} {v : List Int32} (hF : 400 ≤ F) (hq : q < 896) (hs : q / 128 = s) (hv : v.length ≤ 100) (hf : fr + v.length ≤ 917504) (hsrc : ∀ j, j < v.length → rB (σ.2 63) (fr + j) = v.getD j 0) :
    WP (m_keep_b262 F σ (Int32.ofNat fr) (Int32.ofNat v.length) (Int32.ofNat q)) (fun p => p.1 = 1 ∧ SLm s σ p.2 ∧ (∀ f i, ¬ (f = 117 ∧ i / 100 = q) → ¬ (f = 115 ∧ i = q) → p.2.1 f i = σ.1 f i) ∧ p.2.1 115 q = Int32.ofNat v.length ∧ ∀ i, i < v.length → p.2.1 117 (100 * q + i) = v.getD i 0) := by
  unfold m_keep_b262
  refine WP_st rfl 896 (by decide +kernel) hq ?_
  have h1 : SLm s σ (setI σ 115 q (Int32.ofNat v.length)) := SLm_I SLm_refl (by unfold mOf; omega)
  refine WP_mono (kp274 (F := F) (σ := setI σ 115 q (Int32.ofNat v.length)) hq hs hv hf hsrc F 0 _ (by omega) (Nat.zero_le _) SLm_refl (fun _ _ _ => rfl) (fun i hi => absurd hi (Nat.not_lt_zero _))) ?_
  rintro p ⟨p1, p2, p3, p4⟩
  refine ⟨p1, SLm_t h1 p2, fun f i q1 q2 => ?_, ?_, p4⟩
  · rw [p3 f i q1]
    exact if_neg q2
  · rw [p3 115 q (by omega)]
    exact setI_e
theorem nodup_inj {l : List Nat} {i j : Nat} (h : l.Nodup) (hi : i < l.length) (hj : j < l.length) (e : l.getD i 0 = l.getD j 0) : i = j := by
  rw [List.getD_eq_getElem?_getD, List.getElem?_eq_getElem hi, List.getD_eq_getElem?_getD, List.getElem?_eq_getElem hj] at e
  have e : l[i] = l[j] := e
  have p := List.pairwise_iff_getElem.mp h
  by_cases q : i < j
  · exact absurd e (p i j hi hj q)
  · by_cases q2 : j < i
    · exact absurd e.symm (p j i hj hi q2)
    · omega
/-- a value takes another's place -/
theorem RK_val {σ τ : RS} {s r : Nat} {L : List (List Int32 × List Int32)} {sl : List Nat} {k v : List Int32} (h : RKs σ s L sl) (hr : r < L.length) (ek : (L.getD r ([], [])).1 = k) (hfr : ∀ f i, ¬ (f = 117 ∧ i / 100 = 128 * s + sl.getD r 0) → ¬ (f = 115 ∧ i = 128 * s + sl.getD r 0) → τ.1 f i = σ.1 f i) (h115 : τ.1 115 (128 * s + sl.getD r 0) = Int32.ofNat v.length) (h117 : ∀ i, i < v.length → τ.1 117 (100 * (128 * s + sl.getD r 0) + i) = v.getD i 0)
    (hw : ∀ i, i < L.length → (L.getD i ([], [])).2.length ≤ 100) : RKs τ s (L.take r ++ (k, v) :: L.drop (r + 1)) sl := by
  obtain ⟨h1, h2, h3, h4, h5⟩ := h
  have hl : (L.take r ++ (k, v) :: L.drop (r + 1)).length = L.length := by
    rw [List.length_append, List.length_take, List.length_cons, List.length_drop]
    omega
  refine ⟨h1.trans hl.symm, h2, h3, fun x hx => ?_, fun i hi => ?_⟩
  · rw [hfr 119 _ (by omega) (by omega)]
    exact h4 x hx
  · rw [hl] at hi
    obtain ⟨e1, e2, e3, e4, e5⟩ := h5 i hi
    have hne : i ≠ r → sl.getD i 0 ≠ sl.getD r 0 := by
      intro q z
      exact q (nodup_inj h2 (by omega) (by omega) z)
    dsimp only
    rw [getD_rep hr]
    by_cases q : i = r
    · rw [if_pos q]
      subst q
      rw [ek] at e2 e4
      refine ⟨?_, ?_, h115, fun j hj => ?_, h117⟩
      · rw [hfr 118 _ (by omega) (by omega)]
        exact e1
      · rw [hfr 114 _ (by omega) (by omega)]
        exact e2
      · rw [hfr 116 _ (by omega) (by omega)]
        exact e4 j hj
    · rw [if_neg q]
      have hn := hne q
      refine ⟨?_, ?_, ?_, fun j hj => ?_, fun j hj => ?_⟩
      · rw [hfr 118 _ (by omega) (by omega)]
        exact e1
      · rw [hfr 114 _ (by omega) (by omega)]
        exact e2
      · rw [hfr 115 _ (by omega) (by omega)]
        exact e3
      · rw [hfr 116 _ (by omega) (by omega)]
        exact e4 j hj
      · have := hw i hi
        rw [hfr 117 _ (by omega) (by omega)]
        exact e5 j hj
