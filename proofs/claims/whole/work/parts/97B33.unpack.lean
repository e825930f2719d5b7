/-! a machine is unpacked -/
def aCat (c : List Int32) : Int32 := c.foldl (fun v b => (v <<< ((8 : Int32) &&& 31)) ||| (b &&& 255)) 0
theorem aCat_4 {x : Int32} : aCat (a4 x) = x := by
  show ((((((((0 : Int32) <<< ((8 : Int32) &&& 31)) ||| (aLow8 (x >>> 24) &&& 255)) <<< ((8 : Int32) &&& 31)) ||| (aLow8 (x >>> 16) &&& 255)) <<< ((8 : Int32) &&& 31)) ||| (aLow8 (x >>> 8) &&& 255)) <<< ((8 : Int32) &&& 31)) ||| (aLow8 x &&& 255) = x
  rw [show ((0 : Int32) <<< ((8 : Int32) &&& 31)) = 0 by decide, show ((8 : Int32) &&& 31) = Int32.ofNat 8 by decide, show (24 : Int32) = Int32.ofNat 24 from rfl, show (16 : Int32) = Int32.ofNat 16 from rfl, show x >>> 8 = x >>> Int32.ofNat 8 from rfl]
  apply Int32.toBitVec_inj.mp
  apply BitVec.eq_of_getLsbD_eq
  intro i hi
  have z0 : ∀ j, (0 : Int32).toBitVec.getLsbD j = false := fun j => by
    show (0#32).getLsbD j = false
    simp
  rw [Int32.toBitVec_or, BitVec.getLsbD_or, m255_bit, shl_bit (by omega) hi]
  by_cases q1 : i < 8
  · rw [decide_eq_true q1, lo_bit q1]
    simp
  · rw [decide_eq_false q1, Int32.toBitVec_or, BitVec.getLsbD_or, m255_bit, shl_bit (by omega) (by omega)]
    by_cases q2 : i < 16
    · rw [decide_eq_true (show i - 8 < 8 by omega), lo_bit (y := x >>> Int32.ofNat 8) (by omega), sh_bit (k := 8) (by omega) (by omega), show 8 + (i - 8) = i by omega]
      simp
    · rw [decide_eq_false (show ¬ i - 8 < 8 by omega), Int32.toBitVec_or, BitVec.getLsbD_or, m255_bit, shl_bit (by omega) (by omega)]
      by_cases q3 : i < 24
      · rw [decide_eq_true (show i - 8 - 8 < 8 by omega), lo_bit (y := x >>> Int32.ofNat 16) (by omega), sh_bit (k := 16) (by omega) (by omega), show 16 + (i - 8 - 8) = i by omega]
        simp
      · rw [decide_eq_false (show ¬ i - 8 - 8 < 8 by omega), Int32.toBitVec_or, BitVec.getLsbD_or, m255_bit, decide_eq_true (show i - 8 - 8 - 8 < 8 by omega), lo_bit (y := x >>> Int32.ofNat 24) (by omega), sh_bit (k := 24) (by omega) (by omega), show 24 + (i - 8 - 8 - 8) = i by omega, z0]
        simp
theorem aCat_2 {n : Nat} (h : n < 128) : aCat [aLow8 (Int32.ofNat n >>> 8), aLow8 (Int32.ofNat n)] = Int32.ofNat n := by
  revert n
  decide +kernel
theorem aCat_1 {n : Nat} (h : n < 128) : aCat [aLow8 (Int32.ofNat n)] = Int32.ofNat n := by
  revert n
  decide +kernel
theorem aCat_b {b : Int32} (h : aLow8 b = b) : ((aCat [b]).toInt8.toInt32).toInt8.toInt32 = b := by
  show (((((0 : Int32) <<< ((8 : Int32) &&& 31)) ||| (b &&& 255))).toInt8.toInt32).toInt8.toInt32 = b
  rw [show ((0 : Int32) <<< ((8 : Int32) &&& 31)) = 0 by decide, Int32.zero_or, i_b8]
  conv => rhs; rw [← h]
  show aLow8 (b &&& 255) = aLow8 b
  apply and255 aLow8_i aLow8_i
  apply Int32.toBitVec_inj.mp
  apply BitVec.eq_of_getLsbD_eq
  intro i hi
  rw [m255_bit, m255_bit]
  by_cases q : i < 8
  · rw [lo_bit q, lo_bit q, m255_bit, decide_eq_true q]
    simp
  · rw [decide_eq_false q]
    simp
theorem setI_II {σ : RS} {f i : Nat} {v w : Int32} : setI (setI σ f i v) f i w = setI σ f i w := by
  unfold setI
  refine Prod.ext ?_ rfl
  funext x y
  show (if x = f ∧ y = i then w else if x = f ∧ y = i then v else σ.1 x y) = _
  by_cases q : x = f ∧ y = i
  · simp [q]
  · simp [q]
theorem m_unpack_l {F : Nat} {s pos : Nat} {E c : List Int32} (hs : s < 7) (hl : pos + c.length ≤ 14000) : ∀ n j (τ : RS), c.length + 1 ≤ j + n → j ≤ c.length → τ.1 146 0 = Int32.ofNat (pos + j) → (∀ i, i < c.length → τ.1 66 (14000 * s + (pos + i)) = c.getD i 0) → WP (m_unpack_b5 F n τ (Int32.ofNat s) (Int32.ofNat c.length) (aCat (c.take j)) (Int32.ofNat j)) (fun p => p = (aCat c, setI τ 146 0 (Int32.ofNat (pos + c.length)))) := by
  intro n
  induction n with
  | zero => intro j τ h1 h2; omega
  | succ n ih =>
    intro j τ h1 h2 h3 h4
    unfold m_unpack_b5
    refine WP_if (i_gei (by omega) (by omega)) (fun y => ?_) (fun y => ?_)
    · have : j = c.length := by omega
      subst this
      rw [List.take_length, setI_same h3]
      exact ⟨_, rfl, rfl⟩
    · rw [h3, show (14000 : Int32) * Int32.ofNat s + Int32.ofNat (pos + j) = Int32.ofNat (14000 * s + (pos + j)) from i_ma]
      refine WP_ld rfl 98000 (by decide +kernel) (by omega) ?_
      rw [h4 j (by omega)]
      show WP (m_unpack_b5 F n (setI τ 146 0 (Int32.ofNat (pos + j) + 1)) _ _ _ _) _
      rw [i_s, i_s]
      have e : ((aCat (c.take j)) <<< ((8 : Int32) &&& 31)) ||| (c.getD j 0 &&& 255) = aCat (c.take (j + 1)) := by
        rw [take_s (d := 0) (by omega)]
        unfold aCat
        rw [List.foldl_append]
        rfl
      rw [e]
      have := ih (j + 1) (setI τ 146 0 (Int32.ofNat (pos + j + 1))) (by omega) (by omega) setI_e (fun i hi => by rw [setI_f (by decide)]; exact h4 i hi)
      rw [setI_II] at this
      exact this
theorem m_unpack_n {F : Nat} {τ : RS} {s : Nat} {E pre c post : List Int32} (hF : 400 ≤ F) (hs : s < 7) (hE : E = pre ++ c ++ post) (hl : E.length ≤ 14000) (hc : c.length ≤ 100) (h : τ.1 146 0 = Int32.ofNat pre.length) (hB : ∀ i, i < E.length → τ.1 66 (14000 * s + i) = E.getD i 0) : m_unpack F τ (Int32.ofNat s) (Int32.ofNat c.length) = some (aCat c, setI τ 146 0 (Int32.ofNat (pre ++ c).length)) := by
  have hlen : pre.length + c.length + post.length ≤ 14000 := by
    rw [hE, List.length_append, List.length_append] at hl
    exact hl
  have := m_unpack_l (F := F) (E := E) (pos := pre.length) (c := c) hs (by omega) F 0 τ (by omega) (Nat.zero_le _) h (fun i hi => by
    rw [hB _ (by rw [hE, List.length_append, List.length_append]; omega), hE, List.append_assoc, List.getD_eq_getElem?_getD, List.getElem?_append_right (by omega), List.getElem?_append_left (by omega), List.getD_eq_getElem?_getD, Nat.add_sub_cancel_left])
  obtain ⟨x, x1, x2⟩ := this
  unfold m_unpack m_unpack_b0
  rw [show (0 : Int32) = aCat (c.take 0) from rfl]
  rw [show aCat (c.take 0) = Int32.ofNat 0 from rfl] at x1 ⊢
  rw [x1, x2, List.length_append]
/-- only a machine and the place in its snapshot have changed -/
def SLu (s : Nat) (σ σ' : RS) : Prop := (∀ f i, ¬ mOf f i s → f ≠ 146 → σ'.1 f i = σ.1 f i) ∧ σ'.2 = σ.2
theorem SLu_refl {s : Nat} {σ : RS} : SLu s σ σ := ⟨fun _ _ _ _ => rfl, rfl⟩
theorem SLu_I {s : Nat} {σ τ : RS} {f i : Nat} {v : Int32} (h : SLu s σ τ) (q : mOf f i s ∨ f = 146) : SLu s σ (setI τ f i v) := by
  refine ⟨fun g j h1 h2 => ?_, h.2⟩
  rw [← h.1 g j h1 h2]
  refine if_neg (fun z => ?_)
  rw [← z.1, ← z.2] at q
  exact q.elim h1 h2
theorem SLu_66 {s : Nat} {σ τ : RS} {E : List Int32} (h : SLu s σ τ) (hB : ∀ i, i < E.length → σ.1 66 (14000 * s + i) = E.getD i 0) : ∀ i, i < E.length → τ.1 66 (14000 * s + i) = E.getD i 0 := fun i hi => by
  rw [h.1 66 _ (by unfold mOf; omega) (by decide)]
  exact hB i hi
theorem un151 {F : Nat} {K : RS → Int32 → Int32 → Option RS} {σ : RS} {s q : Nat} {E pre w post : List Int32} {Q : RS → Prop} (hs : s < 7) (hq : q / 16 = s) (hF : 400 ≤ F) (hw : ∀ b ∈ w, aLow8 b = b) (hwl : w.length ≤ 112) (hE : E = pre ++ w ++ post) (hl : E.length ≤ 14000) (hB : ∀ i, i < E.length → σ.1 66 (14000 * s + i) = E.getD i 0) (h111 : σ.1 111 q = Int32.ofNat w.length)
    (hK : ∀ τ, SLu s σ τ → τ.1 146 0 = Int32.ofNat (pre ++ w).length → (∀ f i, f ≠ 146 → ¬ (f = 112 ∧ i / 112 = q) → τ.1 f i = σ.1 f i) → (∀ i, i < w.length → τ.1 112 (112 * q + i) = w.getD i 0) → WP (K τ (Int32.ofNat s) (Int32.ofNat (q + 1))) Q) : ∀ n j τ, w.length + 1 ≤ j + n → j ≤ w.length → SLu s σ τ → τ.1 146 0 = Int32.ofNat (pre.length + j) → (∀ f i, f ≠ 146 → ¬ (f = 112 ∧ i / 112 = q) → τ.1 f i = σ.1 f i) → (∀ i, i < j → τ.1 112 (112 * q + i) = w.getD i 0) → WP (m_unpackAll_b151 F K n τ (Int32.ofNat s) (Int32.ofNat q) (Int32.ofNat j)) Q := by
  intro n
  induction n with
  | zero => intro j τ h1 h2; omega
  | succ n ih =>
    intro j τ h1 h2 g1 g2 g3 g4
    unfold m_unpackAll_b151
    refine WP_ld rfl 112 (by decide +kernel) (by omega) ?_
    rw [g3 111 q (by decide) (by omega), h111]
    refine WP_if (i_gei (by omega) (by omega)) (fun y => ?_) (fun y => ?_)
    · have : j = w.length := by omega
      subst this
      rw [i_s]
      exact hK τ g1 (by rw [List.length_append]; exact g2) g3 g4
    · have hj : j < w.length := by omega
      have hE2 : E = (pre ++ w.take j) ++ [w.getD j 0] ++ (w.drop (j + 1) ++ post) := by
        rw [hE, List.append_assoc (pre ++ w.take j), List.append_assoc pre (w.take j), ← List.append_assoc [w.getD j 0], show [w.getD j 0] ++ w.drop (j + 1) = w.drop j from (getD_drop hj).symm, ← List.append_assoc (w.take j), List.take_append_drop, ← List.append_assoc]
      have hu := m_unpack_n (F := F) (τ := τ) hF hs hE2 hl (by simp) (by rw [List.length_append, List.length_take, Nat.min_eq_left (by omega)]; exact g2) (SLu_66 g1 hB)
      refine WP_eq hu ?_
      have hb : aLow8 (w.getD j 0) = w.getD j 0 := by
        rw [List.getD_eq_getElem?_getD, List.getElem?_eq_getElem hj]
        exact hw _ (List.getElem_mem _)
      rw [aCat_b hb]
      refine WP_st (n := 112 * q + j) i_ma 12544 (by decide +kernel) (by omega) ?_
      rw [i_s]
      refine ih (j + 1) _ (by omega) (by omega) (SLu_I (SLu_I g1 (Or.inr rfl)) (Or.inl (by unfold mOf; omega))) ?_ (fun f i q1 q2 => ?_) (fun i hi => ?_)
      · rw [setI_f (by decide), setI_e, List.length_append, List.length_append, List.length_take, Nat.min_eq_left (by omega)]
        rfl
      · rw [← g3 f i q1 q2]
        show (if _ then _ else if _ then _ else _) = _
        rw [if_neg (fun z => q2 (by omega)), if_neg (fun z => q1 z.1)]
      · by_cases z : i = j
        · rw [z, setI_e]
        · rw [setI_i (by omega), setI_f (by decide)]
          exact g4 i (by omega)
theorem un309 {F : Nat} {K : RS → Int32 → Int32 → Option RS} {σ : RS} {s q x : Nat} {E pre w post : List Int32} {Q : RS → Prop} (hs : s < 7) (hq : q / 128 = s) (hF : 400 ≤ F) (hw : ∀ b ∈ w, aLow8 b = b) (hwl : w.length ≤ 100) (hE : E = pre ++ w ++ post) (hl : E.length ≤ 14000) (hB : ∀ i, i < E.length → σ.1 66 (14000 * s + i) = E.getD i 0) (h111 : σ.1 115 q = Int32.ofNat w.length)
    (hK : ∀ τ, SLu s σ τ → τ.1 146 0 = Int32.ofNat (pre ++ w).length → (∀ f i, f ≠ 146 → ¬ (f = 117 ∧ i / 100 = q) → τ.1 f i = σ.1 f i) → (∀ i, i < w.length → τ.1 117 (100 * q + i) = w.getD i 0) → WP (K τ (Int32.ofNat s) (Int32.ofNat (x + 1))) Q) : ∀ n j τ, w.length + 1 ≤ j + n → j ≤ w.length → SLu s σ τ → τ.1 146 0 = Int32.ofNat (pre.length + j) → (∀ f i, f ≠ 146 → ¬ (f = 117 ∧ i / 100 = q) → τ.1 f i = σ.1 f i) → (∀ i, i < j → τ.1 117 (100 * q + i) = w.getD i 0) → WP (m_unpackAll_b309 F K n τ (Int32.ofNat s) (Int32.ofNat x) (Int32.ofNat q) (Int32.ofNat j)) Q := by
  intro n
  induction n with
  | zero => intro j τ h1 h2; omega
  | succ n ih =>
    intro j τ h1 h2 g1 g2 g3 g4
    unfold m_unpackAll_b309
    refine WP_ld rfl 896 (by decide +kernel) (by omega) ?_
    rw [g3 115 q (by decide) (by omega), h111]
    refine WP_if (i_gei (by omega) (by omega)) (fun y => ?_) (fun y => ?_)
    · have : j = w.length := by omega
      subst this
      rw [i_s]
      exact hK τ g1 (by rw [List.length_append]; exact g2) g3 g4
    · have hj : j < w.length := by omega
      have hE2 : E = (pre ++ w.take j) ++ [w.getD j 0] ++ (w.drop (j + 1) ++ post) := by
        rw [hE, List.append_assoc (pre ++ w.take j), List.append_assoc pre (w.take j), ← List.append_assoc [w.getD j 0], show [w.getD j 0] ++ w.drop (j + 1) = w.drop j from (getD_drop hj).symm, ← List.append_assoc (w.take j), List.take_append_drop, ← List.append_assoc]
      have hu := m_unpack_n (F := F) (τ := τ) hF hs hE2 hl (by simp) (by rw [List.length_append, List.length_take, Nat.min_eq_left (by omega)]; exact g2) (SLu_66 g1 hB)
      refine WP_eq hu ?_
      have hb : aLow8 (w.getD j 0) = w.getD j 0 := by
        rw [List.getD_eq_getElem?_getD, List.getElem?_eq_getElem hj]
        exact hw _ (List.getElem_mem _)
      rw [aCat_b hb]
      refine WP_st (n := 100 * q + j) i_ma 89600 (by decide +kernel) (by omega) ?_
      rw [i_s]
      refine ih (j + 1) _ (by omega) (by omega) (SLu_I (SLu_I g1 (Or.inr rfl)) (Or.inl (by unfold mOf; omega))) ?_ (fun f i q1 q2 => ?_) (fun i hi => ?_)
      · rw [setI_f (by decide), setI_e, List.length_append, List.length_append, List.length_take, Nat.min_eq_left (by omega)]
        rfl
      · rw [← g3 f i q1 q2]
        show (if _ then _ else if _ then _ else _) = _
        rw [if_neg (fun z => q2 (by omega)), if_neg (fun z => q1 z.1)]
      · by_cases z : i = j
        · rw [z, setI_e]
        · rw [setI_i (by omega), setI_f (by decide)]
          exact g4 i (by omega)
theorem un270 {F : Nat} {K : RS → Int32 → Int32 → Option RS} {σ : RS} {s q x : Nat} {E pre w w2 post : List Int32} {Q : RS → Prop} (hs : s < 7) (hq : q / 128 = s) (hF : 400 ≤ F) (hw : ∀ b ∈ w, aLow8 b = b) (hwl : w.length ≤ 32) (hw2 : ∀ b ∈ w2, aLow8 b = b) (hwl2 : w2.length ≤ 100) (hE : E = pre ++ w ++ w2 ++ post) (hl : E.length ≤ 14000) (hB : ∀ i, i < E.length → σ.1 66 (14000 * s + i) = E.getD i 0) (h111 : σ.1 114 q = Int32.ofNat w.length) (h115 : σ.1 115 q = Int32.ofNat w2.length)
    (hK : ∀ τ, SLu s σ τ → τ.1 146 0 = Int32.ofNat (pre ++ w ++ w2).length → (∀ f i, f ≠ 146 → ¬ (f = 116 ∧ i / 32 = q) → ¬ (f = 117 ∧ i / 100 = q) → τ.1 f i = σ.1 f i) → (∀ i, i < w.length → τ.1 116 (32 * q + i) = w.getD i 0) → (∀ i, i < w2.length → τ.1 117 (100 * q + i) = w2.getD i 0) → WP (K τ (Int32.ofNat s) (Int32.ofNat (x + 1))) Q) : ∀ n j τ, w.length + 1 ≤ j + n → j ≤ w.length → SLu s σ τ → τ.1 146 0 = Int32.ofNat (pre.length + j) → (∀ f i, f ≠ 146 → ¬ (f = 116 ∧ i / 32 = q) → τ.1 f i = σ.1 f i) → (∀ i, i < j → τ.1 116 (32 * q + i) = w.getD i 0) → WP (m_unpackAll_b270 F K n τ (Int32.ofNat s) (Int32.ofNat x) (Int32.ofNat q) (Int32.ofNat j)) Q := by
  intro n
  induction n with
  | zero => intro j τ h1 h2; omega
  | succ n ih =>
    intro j τ h1 h2 g1 g2 g3 g4
    unfold m_unpackAll_b270
    refine WP_ld rfl 896 (by decide +kernel) (by omega) ?_
    rw [g3 114 q (by decide) (by omega), h111]
    refine WP_if (i_gei (by omega) (by omega)) (fun y => ?_) (fun y => ?_)
    · have : j = w.length := by omega
      subst this
      refine un309 (σ := τ) (pre := pre ++ w) hs hq hF hw2 hwl2 hE hl (SLu_66 g1 hB) (by rw [g3 115 q (by decide) (by omega)]; exact h115) (fun τ2 k1 k2 k3 k4 => ?_) F 0 τ (by omega) (Nat.zero_le _) SLu_refl (by rw [List.length_append]; exact g2) (fun _ _ _ _ => rfl) (fun i hi => absurd hi (Nat.not_lt_zero _))
      refine hK τ2 ⟨fun f i q1 q2 => (k1.1 f i q1 q2).trans (g1.1 f i q1 q2), k1.2.trans g1.2⟩ k2 (fun f i q1 q2 q3 => (k3 f i q1 q3).trans (g3 f i q1 q2)) (fun i hi => ?_) k4
      rw [k3 116 _ (by decide) (by omega)]
      exact g4 i hi
    · have hj : j < w.length := by omega
      have hE2 : E = (pre ++ w.take j) ++ [w.getD j 0] ++ (w.drop (j + 1) ++ (w2 ++ post)) := by
        rw [hE, List.append_assoc (pre ++ w.take j), List.append_assoc pre (w.take j), ← List.append_assoc [w.getD j 0], show [w.getD j 0] ++ w.drop (j + 1) = w.drop j from (getD_drop hj).symm, ← List.append_assoc (w.take j), List.take_append_drop, ← List.append_assoc, ← List.append_assoc]
      have hu := m_unpack_n (F := F) (τ := τ) hF hs hE2 hl (by simp) (by rw [List.length_append, List.length_take, Nat.min_eq_left (by omega)]; exact g2) (SLu_66 g1 hB)
      refine WP_eq hu ?_
      have hb : aLow8 (w.getD j 0) = w.getD j 0 := by
        rw [List.getD_eq_getElem?_getD, List.getElem?_eq_getElem hj]
        exact hw _ (List.getElem_mem _)
      rw [aCat_b hb]
      refine WP_st (n := 32 * q + j) i_ma 28672 (by decide +kernel) (by omega) ?_
      rw [i_s]
      refine ih (j + 1) _ (by omega) (by omega) (SLu_I (SLu_I g1 (Or.inr rfl)) (Or.inl (by unfold mOf; omega))) ?_ (fun f i q1 q2 => ?_) (fun i hi => ?_)
      · rw [setI_f (by decide), setI_e, List.length_append, List.length_append, List.length_take, Nat.min_eq_left (by omega)]
        rfl
      · rw [← g3 f i q1 q2]
        show (if _ then _ else if _ then _ else _) = _
        rw [if_neg (fun z => q2 (by omega)), if_neg (fun z => q1 z.1)]
      · by_cases z : i = j
        · rw [z, setI_e]
        · rw [setI_i (by omega), setI_f (by decide)]
          exact g4 i (by omega)
