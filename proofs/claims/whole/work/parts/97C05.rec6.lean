theorem pigeonL : ∀ (n : Nat) (l : List Nat), l.Nodup → (∀ x ∈ l, x < n) → l.length ≤ n := by
  intro n
  induction n with
  | zero =>
    intro l _ h
    cases l with
    | nil => exact Nat.le_refl _
    | cons x r => exact absurd (h x List.mem_cons_self) (Nat.not_lt_zero _)
  | succ n ih =>
    intro l hn h
    by_cases q : n ∈ l
    · have h1 := List.length_erase_of_mem q
      have h2 := ih (l.erase n) (hn.erase _) (fun x hx => by
        have h3 := h x (List.mem_of_mem_erase hx)
        have h4 : x ≠ n := fun z => by
          rw [z] at hx
          exact absurd hx (fun y => (List.Nodup.not_mem_erase hn) y)
        omega)
      omega
    · have := ih l hn (fun x hx => by
        have h3 := h x hx
        have h4 : x ≠ n := fun z => q (z ▸ hx)
        omega)
      omega
theorem pig12 {l : List Nat} (h : l.Nodup) (h2 : ∀ x ∈ l, 4 ≤ x ∧ x < 16) : l.length ≤ 12 := by
  have nd : (l.map (fun x => x - 4)).Nodup := by
    refine List.pairwise_map.mpr (List.Pairwise.imp_of_mem (fun {x y} hx hy hxy => ?_) h)
    have h3 := h2 x hx
    have h4 := h2 y hy
    omega
  have := pigeonL 12 _ nd (fun x hx => by
    rw [List.mem_map] at hx
    obtain ⟨y, hy, rfl⟩ := hx
    have := h2 y hy
    omega)
  rw [List.length_map] at this
  exact this
theorem map_range_get {α : Type} {l : List α} {d : α} : ∀ n, n ≤ l.length → (List.range n).map (fun j => l.getD j d) = l.take n := by
  intro n
  induction n with
  | zero => exact fun _ => rfl
  | succ n ih =>
    intro h
    rw [List.range_succ, List.map_append, ih (by omega), take_s (d := d) (by omega)]
    rfl
theorem scL_fst {K : List AK} {G : AF} {b n0 W : Nat} {L0 : List (AE × Int32)} (h : W ≤ G.2.1.length) : (scL K G b n0 L0 W).map Prod.fst = L0.map Prod.fst ++ (G.2.1.take W).drop (b - n0) := by
  unfold scL
  rw [List.map_append, List.map_drop, List.map_map]
  congr 2
  exact map_range_get (d := aE0) W h
theorem clamp_b {b n0 : Nat} (hb : b < 1073741824) (hn : n0 < 1073741824) : (Int32.ofNat b + 1 - Int32.ofNat (n0 + 1)).toNatClampNeg = b - n0 := by
  have h1 : (Int32.ofNat b + 1 - Int32.ofNat (n0 + 1)).toInt = (b : Int) - n0 := by
    rw [i_s, i_subI (by rw [Int32.toInt_ofNat_of_lt (by omega), Int32.toInt_ofNat_of_lt (by omega)]; omega) (by rw [Int32.toInt_ofNat_of_lt (by omega), Int32.toInt_ofNat_of_lt (by omega)]; omega), Int32.toInt_ofNat_of_lt (by omega), Int32.toInt_ofNat_of_lt (by omega)]
    omega
  show (Int32.ofNat b + 1 - Int32.ofNat (n0 + 1)).toInt.toNat = b - n0
  rw [h1]
  omega
theorem aLoad_c {K : List AK} {σ : RS} {a : AA} {s b f n0 : Nat} {r : List Nat} (hk : sgOK K σ a s) (h4 : 4 ≤ f) (h16 : f < 16) (hseg : aIsSeg a s f = true) (hn : n0 + 1 = fsN a s f) (hb : b < 1073741824) : aLoad a s (Int32.ofNat b) (f :: r) = (aWhole (aFc a s f)).drop (b - n0) ++ aLoad a s (Int32.ofNat b) r := by
  obtain ⟨_, k6, k7, k8⟩ := (hk f h4 h16).2.2.2.2 hseg
  show (aWhole (aFc a s f)).drop (Int32.ofNat b + 1 - (aFc a s f).1 2).toNatClampNeg ++ _ = _
  rw [k6, ← hn, clamp_b hb (by omega)]
/-- what follows a segment -/
def chNx (a : AA) (s k f : Nat) : List Nat := match (aWhole (aFc a s f)).getLast? with
  | none => []
  | some e => match aSegAt a s ((aFc a s f).1 2 + Int32.ofNat (wlN a s f)) e.1 with
    | none => []
    | some g => aChain a s k g
theorem aChain_s {a : AA} {s k f : Nat} : aChain a s (k + 1) f = f :: chNx a s k f := rfl
theorem segAt_spec {a : AA} {s g : Nat} {n t : Int32} (h : aSegAt a s n t = some g) : 4 ≤ g ∧ g < 16 ∧ aIsSeg a s g = true ∧ (aFc a s g).1 2 = n ∧ (aFc a s g).1 3 = t := by
  unfold aSegAt at h
  have h1 := List.find?_some h
  have h2 := seg_mem.mp (List.mem_of_find?_eq_some h)
  simp only [Bool.and_eq_true, decide_eq_true_eq] at h1
  exact ⟨h2.1, h2.2, h1.1.1, h1.1.2, h1.2⟩
/-- the end of the chain -/
def chEnd (F : Nat) (K : List AK) (σ : RS) (a : AA) (s b : Nat) (m z : Bool) (done : List Nat) (es : List AE) (Q : RS → Prop) : Prop := ∀ (n : Nat) (τ : RS) (L : List (AE × Int32)) (t : Int32), RcS K σ a s b τ done L → L.map Prod.fst = es → WP (m_recoverLog_b196 F (n + 1) τ (Int32.ofNat s) (-1) (Int32.ofNat (b + L.length)) t (aB m) (aB z)) Q
theorem chain_loop {F : Nat} {K : List AK} {σ : RS} {a : AA} {s b : Nat} {T : Int32} {Q : RS → Prop} {m z : Bool} (hF : 1000 ≤ F) (hs : s < 7) (hk : sgOK K σ a s) (e55 : σ.1 55 s = Int32.ofNat b) (e57 : σ.1 57 s = T) (hb : b < 1073741824) :
    ∀ (k : Nat) (done : List Nat) (f n0 n : Nat) (t : Int32) (L : List (AE × Int32)) (τ : RS), k + done.length = 12 → k + 1 ≤ n → (done ++ [f]).Nodup → (∀ g ∈ done, 4 ≤ g ∧ g < 16 ∧ fsN a s g + wlN a s g ≤ n0 + 1 ∧ fsN a s g ≤ n0) → 4 ≤ f → f < 16 → aIsSeg a s f = true → n0 + 1 = fsN a s f → b ≤ n0 → L.length = n0 - b → L.length + (aLoad a s (Int32.ofNat b) (aChain a s k f)).length ≤ 300 → RcS K σ a s b τ done L →
    chEnd F K σ a s b m z (done ++ aChain a s k f) (L.map Prod.fst ++ aLoad a s (Int32.ofNat b) (aChain a s k f)) Q → WP (m_recoverLog_b196 F n τ (Int32.ofNat s) (Int32.ofNat f) (Int32.ofNat n0) t (aB m) (aB z)) Q := by
  intro k
  induction k with
  | zero =>
    intro done f n0 n t L τ h1 h2 h3 h4 h5 h6
    exfalso
    have := pig12 h3 (fun x hx => by
      rcases List.mem_append.mp hx with y | y
      · exact ⟨(h4 x y).1, (h4 x y).2.1⟩
      · rw [List.mem_singleton] at y
        rw [y]
        exact ⟨h5, h6⟩)
    rw [List.length_append] at this
    have : done.length + 1 ≤ 12 := this
    omega
  | succ k ih =>
    intro done f n0 n t L τ h1 h2 h3 h4 h5 h6 hseg hn hbn hL hmx hr fin
    obtain ⟨n', rfl⟩ : ∃ n', n = n' + 1 := ⟨n - 1, by omega⟩
    obtain ⟨⟨S, hS⟩, k6, k7, k8⟩ := (hk f h5 h6).2.2.2.2 hseg
    obtain ⟨w1, w2, w3, w4⟩ := seg_whole hS
    rw [aChain_s] at hmx fin
    rw [aLoad_c hk h5 h6 hseg hn hb, show b - n0 = 0 by omega, List.drop_zero] at hmx fin
    rw [List.length_append] at hmx
    have hfd : f ∉ done := fun z => by
      rw [List.nodup_append] at h3
      exact h3.2.2 f z f (by simp) rfl
    have hW : (aWhole (aFc a s f)).length = wlN a s f := rfl
    have hl' := scL_len (K := K) (G := aFc a s f) (i := wlN a s f) hL
    have hfst : (scL K (aFc a s f) b n0 L (wlN a s f)).map Prod.fst = L.map Prod.fst ++ aWhole (aFc a s f) := by
      rw [scL_fst (show wlN a s f ≤ _ from w1), show b - n0 = 0 by omega, List.drop_zero]
      exact congrArg _ w4.symm
    have eM : scM (aFc a s f) T b n0 m (wlN a s f) = m := if_neg (by omega)
    have eZ : scZ b n0 z (wlN a s f) = z := by
      unfold scZ
      rw [decide_eq_false (by omega), Bool.or_false]
    refine chain_file (m0 := m) (z0 := z) (T := T) hF hs hk hr (by omega) h5 h6 hseg hfd hn (fun g hg => (h4 g hg).2.2.1) e55 e57 hb hL (by omega) (fun τ2 hr2 => ?_)
    rw [eM, eZ]
    have stop : chNx a s k f = [] → WP (m_recoverLog_b196 F n' τ2 (Int32.ofNat s) (-1) (Int32.ofNat (n0 + wlN a s f)) (scT (aFc a s f) t (wlN a s f)) (aB m) (aB z)) Q := by
      intro hc
      rw [hc] at fin
      obtain ⟨n2, rfl⟩ : ∃ n2, n' = n2 + 1 := ⟨n' - 1, by omega⟩
      have := fin n2 τ2 _ (scT (aFc a s f) t (wlN a s f)) hr2 (by rw [hfst]; show _ = L.map Prod.fst ++ (aWhole (aFc a s f) ++ []); rw [List.append_nil])
      rw [hl', show b + (n0 + wlN a s f - b) = n0 + wlN a s f by omega] at this
      exact this
    by_cases q0 : wlN a s f = 0
    · rw [if_pos q0]
      refine stop ?_
      unfold chNx
      have : aWhole (aFc a s f) = [] := List.eq_nil_of_length_eq_zero q0
      rw [this]
      rfl
    · rw [if_neg q0]
      have elast : (aWhole (aFc a s f)).getLast? = some ((aFc a s f).2.1.getD (wlN a s f - 1) aE0) := by
        rw [List.getLast?_eq_getElem?, hW]
        rw [w4, List.getElem?_take, if_pos (by omega), List.getD_eq_getElem?_getD, List.getElem?_eq_getElem (by omega)]
        rfl
      have eT : scT (aFc a s f) t (wlN a s f) = ((aFc a s f).2.1.getD (wlN a s f - 1) aE0).1 := if_neg q0
      have eN : (aFc a s f).1 2 + Int32.ofNat (wlN a s f) = Int32.ofNat (n0 + wlN a s f) + 1 := by
        rw [k6, ← hn, i_ad, i_s, show n0 + 1 + wlN a s f = n0 + wlN a s f + 1 by omega]
      have eX : chNx a s k f = match aSegAt a s (Int32.ofNat (n0 + wlN a s f) + 1) (scT (aFc a s f) t (wlN a s f)) with
        | none => []
        | some g => aChain a s k g := by
        unfold chNx
        rw [elast, eT, ← eN]
      unfold nxF
      cases hsa : aSegAt a s (Int32.ofNat (n0 + wlN a s f) + 1) (scT (aFc a s f) t (wlN a s f)) with
      | none =>
        rw [hsa] at eX
        exact stop eX
      | some g =>
        rw [hsa] at eX
        dsimp only at eX ⊢
        obtain ⟨s1, s2, s3, s4, s5⟩ := segAt_spec hsa
        obtain ⟨_, g6, g7, g8⟩ := (hk g s1 s2).2.2.2.2 s3
        have hg : n0 + wlN a s f + 1 = fsN a s g := by
          rw [g6, i_s, i_eqi (by omega) (by omega)] at s4
          exact s4.symm
        rw [eX] at hmx fin
        have gnew : g ∉ done ++ [f] := by
          intro y
          rcases List.mem_append.mp y with y | y
          · have := (h4 g y).2.2.2
            omega
          · rw [List.mem_singleton] at y
            rw [y] at hg
            omega
        have hmx2 : (scL K (aFc a s f) b n0 L (wlN a s f)).length + (aLoad a s (Int32.ofNat b) (aChain a s k g)).length ≤ 300 := by omega
        refine ih (done ++ [f]) g (n0 + wlN a s f) n' (scT (aFc a s f) t (wlN a s f)) _ τ2 (by rw [List.length_append]; show k + (done.length + 1) = 12; omega) (by omega) ?_ (fun x hx => ?_) s1 s2 s3 hg (by omega) hl' hmx2 hr2 ?_
        · rw [List.nodup_append]
          refine ⟨h3, by simp, fun x hx y hy => ?_⟩
          rw [List.mem_singleton] at hy
          rw [hy]
          exact fun z => gnew (z ▸ hx)
        · rcases List.mem_append.mp hx with y | y
          · obtain ⟨y1, y2, y3, y4⟩ := h4 x y
            exact ⟨y1, y2, by omega, by omega⟩
          · rw [List.mem_singleton] at y
            rw [y]
            exact ⟨h5, h6, by omega, by omega⟩
        · rw [hfst, List.append_assoc, List.append_assoc]
          exact fin
