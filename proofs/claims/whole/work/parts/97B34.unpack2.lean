/-! the whole machine is unpacked -/
theorem flat_split {α : Type} {L : List α} {f : α → List Int32} {i : Nat} {d : α} (h : i < L.length) : L.flatMap f = (L.take i).flatMap f ++ f (L.getD i d) ++ (L.drop (i + 1)).flatMap f := by
  conv => lhs; rw [← List.take_append_drop i L, getD_drop (d := d) h]
  rw [List.flatMap_append, List.flatMap_cons, List.append_assoc]
/-- the keys of a machine lie in the first slots, so far -/
def KsU (s i : Nat) (L : List (List Int32 × List Int32)) (τ : RS) : Prop := (∀ k, k < 128 → τ.1 119 (128 * s + k) = if k < i then 1 else 0) ∧ ∀ x, x < i →
  let e := L.getD x ([], [])
  let q := 128 * s + x
  τ.1 118 (128 * s + x) = Int32.ofNat x ∧ τ.1 114 q = Int32.ofNat e.1.length ∧ τ.1 115 q = Int32.ofNat e.2.length ∧ (∀ j, j < e.1.length → τ.1 116 (32 * q + j) = e.1.getD j 0) ∧ ∀ j, j < e.2.length → τ.1 117 (100 * q + j) = e.2.getD j 0
theorem un205 {F : Nat} {σ : RS} {s : Nat} {M : AM} {pre : List Int32} (hF : 400 ≤ F) (hs : s < 7) (w : wfM M) (hE : aEnc M = pre ++ M.2.flatMap kEnc) (hB : ∀ i, i < (aEnc M).length → σ.1 66 (14000 * s + i) = (aEnc M).getD i 0) (h113 : σ.1 113 s = Int32.ofNat M.2.length) :
    ∀ n i τ, 130 ≤ i + n → i ≤ M.2.length → SLu s σ τ → τ.1 146 0 = Int32.ofNat (pre ++ (M.2.take i).flatMap kEnc).length → (∀ f j, 106 ≤ f → f ≤ 113 → τ.1 f j = σ.1 f j) → KsU s i M.2 τ → WP (m_unpackAll_b205 F n τ (Int32.ofNat s) (Int32.ofNat i)) (fun τ' => SLu s σ τ' ∧ (∀ f j, 106 ≤ f → f ≤ 113 → τ'.1 f j = σ.1 f j) ∧ KsU s M.2.length M.2 τ') := by
  obtain ⟨el, _⟩ := aEnc_len w
  have hl := w.2.1
  intro n
  induction n with
  | zero => intro i τ h1 h2; omega
  | succ n ih =>
    intro i τ h1 h2 g1 g2 g3 g4
    unfold m_unpackAll_b205
    refine WP_ld rfl 7 (by decide +kernel) hs ?_
    rw [g3 113 s (by omega) (by omega), h113]
    refine WP_if (i_gei (by omega) (by omega)) (fun y => ?_) (fun y => ?_)
    · have : i = M.2.length := by omega
      subst this
      exact WP_some ⟨g1, g3, g4⟩
    · have hi : i < M.2.length := by omega
      obtain ⟨u1, u2, u3, u4⟩ := wf_get w hi
      have hsp := flat_split (f := kEnc) (d := (([], []) : List Int32 × List Int32)) hi
      have htk := flat_take (f := kEnc) (d := (([], []) : List Int32 × List Int32)) hi
      have g4x := g4.2
      generalize he : M.2.getD i ([], []) = e at u1 u2 u3 u4 hsp htk
      rw [show (128 : Int32) * Int32.ofNat s + Int32.ofNat i = Int32.ofNat (128 * s + i) from i_ma]
      refine WP_st rfl 896 (by decide +kernel) (by omega) ?_
      refine WP_st rfl 896 (by decide +kernel) (by omega) ?_
      have s1 : SLu s σ (setI (setI τ 118 (128 * s + i) (Int32.ofNat i)) 119 (128 * s + i) (1 &&& 1)) := SLu_I (SLu_I g1 (Or.inl (by unfold mOf; omega))) (Or.inl (by unfold mOf; omega))
      have hE1 : aEnc M = (pre ++ (M.2.take i).flatMap kEnc) ++ [aLow8 (Int32.ofNat e.1.length)] ++ ([aLow8 (Int32.ofNat e.2.length >>> 8), aLow8 (Int32.ofNat e.2.length)] ++ (e.1 ++ e.2 ++ (M.2.drop (i + 1)).flatMap kEnc)) := by
        rw [hE, hsp]
        unfold kEnc
        simp only [List.append_assoc, List.cons_append, List.nil_append]
      refine WP_eq (m_unpack_n (τ := setI (setI τ 118 (128 * s + i) (Int32.ofNat i)) 119 (128 * s + i) (1 &&& 1)) hF hs hE1 (by omega) (by simp) (by rw [setI_f (by decide), setI_f (by decide)]; exact g2) (SLu_66 s1 hB)) ?_
      rw [aCat_1 (by omega)]
      refine WP_st rfl 896 (by decide +kernel) (by omega) ?_
      have s2 := SLu_I (f := 114) (i := 128 * s + i) (v := Int32.ofNat e.1.length) (SLu_I (f := 146) (i := 0) (v := Int32.ofNat (pre ++ (M.2.take i).flatMap kEnc ++ [aLow8 (Int32.ofNat e.1.length)]).length) s1 (Or.inr rfl)) (Or.inl (by unfold mOf; omega))
      have hE2 : aEnc M = (pre ++ (M.2.take i).flatMap kEnc ++ [aLow8 (Int32.ofNat e.1.length)]) ++ [aLow8 (Int32.ofNat e.2.length >>> 8), aLow8 (Int32.ofNat e.2.length)] ++ (e.1 ++ e.2 ++ (M.2.drop (i + 1)).flatMap kEnc) := by
        rw [hE1]
        simp only [List.append_assoc]
      refine WP_eq (m_unpack_n hF hs hE2 (by omega) (by simp) (by rw [setI_f (by decide), setI_e]) (SLu_66 s2 hB)) ?_
      rw [aCat_2 (by omega)]
      refine WP_st rfl 896 (by decide +kernel) (by omega) ?_
      have s3 := SLu_I (f := 115) (i := 128 * s + i) (v := Int32.ofNat e.2.length) (SLu_I (f := 146) (i := 0) (v := Int32.ofNat (pre ++ (M.2.take i).flatMap kEnc ++ [aLow8 (Int32.ofNat e.1.length)] ++ [aLow8 (Int32.ofNat e.2.length >>> 8), aLow8 (Int32.ofNat e.2.length)]).length) s2 (Or.inr rfl)) (Or.inl (by unfold mOf; omega))
      have v114 : (setI (setI (setI (setI (setI (setI τ 118 (128 * s + i) (Int32.ofNat i)) 119 (128 * s + i) (1 &&& 1)) 146 0 (Int32.ofNat (pre ++ (M.2.take i).flatMap kEnc ++ [aLow8 (Int32.ofNat e.1.length)]).length)) 114 (128 * s + i) (Int32.ofNat e.1.length)) 146 0 (Int32.ofNat (pre ++ (M.2.take i).flatMap kEnc ++ [aLow8 (Int32.ofNat e.1.length)] ++ [aLow8 (Int32.ofNat e.2.length >>> 8), aLow8 (Int32.ofNat e.2.length)]).length)) 115 (128 * s + i) (Int32.ofNat e.2.length)).1 114 (128 * s + i) = Int32.ofNat e.1.length := by
        rw [setI_f (by decide), setI_f (by decide), setI_e]
      have v115 : (setI (setI (setI (setI (setI (setI τ 118 (128 * s + i) (Int32.ofNat i)) 119 (128 * s + i) (1 &&& 1)) 146 0 (Int32.ofNat (pre ++ (M.2.take i).flatMap kEnc ++ [aLow8 (Int32.ofNat e.1.length)]).length)) 114 (128 * s + i) (Int32.ofNat e.1.length)) 146 0 (Int32.ofNat (pre ++ (M.2.take i).flatMap kEnc ++ [aLow8 (Int32.ofNat e.1.length)] ++ [aLow8 (Int32.ofNat e.2.length >>> 8), aLow8 (Int32.ofNat e.2.length)]).length)) 115 (128 * s + i) (Int32.ofNat e.2.length)).1 115 (128 * s + i) = Int32.ofNat e.2.length := setI_e
      have v118 : (setI (setI (setI (setI (setI (setI τ 118 (128 * s + i) (Int32.ofNat i)) 119 (128 * s + i) (1 &&& 1)) 146 0 (Int32.ofNat (pre ++ (M.2.take i).flatMap kEnc ++ [aLow8 (Int32.ofNat e.1.length)]).length)) 114 (128 * s + i) (Int32.ofNat e.1.length)) 146 0 (Int32.ofNat (pre ++ (M.2.take i).flatMap kEnc ++ [aLow8 (Int32.ofNat e.1.length)] ++ [aLow8 (Int32.ofNat e.2.length >>> 8), aLow8 (Int32.ofNat e.2.length)]).length)) 115 (128 * s + i) (Int32.ofNat e.2.length)).1 118 (128 * s + i) = Int32.ofNat i := by
        rw [setI_f (by decide), setI_f (by decide), setI_f (by decide), setI_f (by decide), setI_f (by decide), setI_e]
      have v119 : (setI (setI (setI (setI (setI (setI τ 118 (128 * s + i) (Int32.ofNat i)) 119 (128 * s + i) (1 &&& 1)) 146 0 (Int32.ofNat (pre ++ (M.2.take i).flatMap kEnc ++ [aLow8 (Int32.ofNat e.1.length)]).length)) 114 (128 * s + i) (Int32.ofNat e.1.length)) 146 0 (Int32.ofNat (pre ++ (M.2.take i).flatMap kEnc ++ [aLow8 (Int32.ofNat e.1.length)] ++ [aLow8 (Int32.ofNat e.2.length >>> 8), aLow8 (Int32.ofNat e.2.length)]).length)) 115 (128 * s + i) (Int32.ofNat e.2.length)).1 119 (128 * s + i) = 1 := by
        rw [setI_f (by decide), setI_f (by decide), setI_f (by decide), setI_f (by decide), setI_e]
        rfl
      have v146 : (setI (setI (setI (setI (setI (setI τ 118 (128 * s + i) (Int32.ofNat i)) 119 (128 * s + i) (1 &&& 1)) 146 0 (Int32.ofNat (pre ++ (M.2.take i).flatMap kEnc ++ [aLow8 (Int32.ofNat e.1.length)]).length)) 114 (128 * s + i) (Int32.ofNat e.1.length)) 146 0 (Int32.ofNat (pre ++ (M.2.take i).flatMap kEnc ++ [aLow8 (Int32.ofNat e.1.length)] ++ [aLow8 (Int32.ofNat e.2.length >>> 8), aLow8 (Int32.ofNat e.2.length)]).length)) 115 (128 * s + i) (Int32.ofNat e.2.length)).1 146 0 = Int32.ofNat (pre ++ (M.2.take i).flatMap kEnc ++ [aLow8 (Int32.ofNat e.1.length)] ++ [aLow8 (Int32.ofNat e.2.length >>> 8), aLow8 (Int32.ofNat e.2.length)]).length := by
        rw [setI_f (by decide), setI_e]
      have vo : ∀ f j, f ≠ 146 → ¬ ((f = 114 ∨ f = 115 ∨ f = 118 ∨ f = 119) ∧ j = 128 * s + i) → (setI (setI (setI (setI (setI (setI τ 118 (128 * s + i) (Int32.ofNat i)) 119 (128 * s + i) (1 &&& 1)) 146 0 (Int32.ofNat (pre ++ (M.2.take i).flatMap kEnc ++ [aLow8 (Int32.ofNat e.1.length)]).length)) 114 (128 * s + i) (Int32.ofNat e.1.length)) 146 0 (Int32.ofNat (pre ++ (M.2.take i).flatMap kEnc ++ [aLow8 (Int32.ofNat e.1.length)] ++ [aLow8 (Int32.ofNat e.2.length >>> 8), aLow8 (Int32.ofNat e.2.length)]).length)) 115 (128 * s + i) (Int32.ofNat e.2.length)).1 f j = τ.1 f j := by
        intro f j q1 q2
        have g : ∀ (ρ : RS) (g' i' : Nat) (v : Int32), g' = 146 ∨ ((g' = 114 ∨ g' = 115 ∨ g' = 118 ∨ g' = 119) ∧ i' = 128 * s + i) → (setI ρ g' i' v).1 f j = ρ.1 f j := by
          intro ρ g' i' v hg
          refine if_neg (fun z => ?_)
          rcases hg with hg | hg
          · exact q1 (z.1.trans hg)
          · exact q2 (by rw [z.1, z.2]; exact hg)
        rw [g _ 115 _ _ (Or.inr ⟨by simp, rfl⟩), g _ 146 _ _ (Or.inl rfl), g _ 114 _ _ (Or.inr ⟨by simp, rfl⟩), g _ 146 _ _ (Or.inl rfl), g _ 119 _ _ (Or.inr ⟨by simp, rfl⟩), g _ 118 _ _ (Or.inr ⟨by simp, rfl⟩)]
      generalize setI (setI (setI (setI (setI (setI τ 118 (128 * s + i) (Int32.ofNat i)) 119 (128 * s + i) (1 &&& 1)) 146 0 (Int32.ofNat (pre ++ (M.2.take i).flatMap kEnc ++ [aLow8 (Int32.ofNat e.1.length)]).length)) 114 (128 * s + i) (Int32.ofNat e.1.length)) 146 0 (Int32.ofNat (pre ++ (M.2.take i).flatMap kEnc ++ [aLow8 (Int32.ofNat e.1.length)] ++ [aLow8 (Int32.ofNat e.2.length >>> 8), aLow8 (Int32.ofNat e.2.length)]).length)) 115 (128 * s + i) (Int32.ofNat e.2.length) = τ3 at s3 v114 v115 v118 v119 v146 vo
      have hE3 : aEnc M = (pre ++ (M.2.take i).flatMap kEnc ++ [aLow8 (Int32.ofNat e.1.length)] ++ [aLow8 (Int32.ofNat e.2.length >>> 8), aLow8 (Int32.ofNat e.2.length)]) ++ e.1 ++ e.2 ++ (M.2.drop (i + 1)).flatMap kEnc := by
        rw [hE2]
        simp only [List.append_assoc]
      refine un270 (σ := τ3) hs (by omega) hF u3 u1 u4 u2 hE3 (by omega) (SLu_66 s3 hB) v114 v115 (fun τ4 k1 k2 k3 k4 k5 => ?_) F 0 τ3 (by omega) (Nat.zero_le _) SLu_refl v146 (fun _ _ _ _ => rfl) (fun j hj => absurd hj (Nat.not_lt_zero _))
      refine ih (i + 1) τ4 (by omega) (by omega) ⟨fun f j q1 q2 => (k1.1 f j q1 q2).trans (s3.1 f j q1 q2), k1.2.trans s3.2⟩ ?_ (fun f j f1 f2 => ?_) ⟨fun k hk => ?_, fun x hx => ?_⟩
      · rw [k2, htk]
        unfold kEnc
        simp only [List.append_assoc, List.cons_append, List.nil_append]
      · rw [k3 f j (by omega) (by omega) (by omega), vo f j (by omega) (by omega)]
        exact g3 f j f1 f2
      · rw [k3 119 _ (by decide) (by omega) (by omega)]
        by_cases z : k = i
        · rw [z, v119, if_pos (by omega)]
        · rw [vo 119 _ (by decide) (by omega), g4.1 k hk]
          by_cases z2 : k < i
          · rw [if_pos z2, if_pos (by omega)]
          · rw [if_neg z2, if_neg (by omega)]
      · dsimp only
        by_cases z : x = i
        · rw [z, he, k3 118 _ (by decide) (by omega) (by omega), k3 114 _ (by decide) (by omega) (by omega), k3 115 _ (by decide) (by omega) (by omega)]
          exact ⟨v118, v114, v115, k4, k5⟩
        · obtain ⟨e1, e2, e3, e4, e5⟩ := g4x x (by omega)
          obtain ⟨x1, x2, _⟩ := wf_get (i := x) w (by omega)
          rw [k3 118 _ (by decide) (by omega) (by omega), k3 114 _ (by decide) (by omega) (by omega), k3 115 _ (by decide) (by omega) (by omega), vo 118 _ (by decide) (by omega), vo 114 _ (by decide) (by omega), vo 115 _ (by decide) (by omega)]
          refine ⟨e1, e2, e3, fun j hj => ?_, fun j hj => ?_⟩
          · rw [k3 116 _ (by decide) (by omega) (by omega), vo 116 _ (by decide) (by omega)]
            exact e4 j hj
          · rw [k3 117 _ (by decide) (by omega) (by omega), vo 117 _ (by decide) (by omega)]
            exact e5 j hj
/-- the sessions of a machine lie in their places, so far -/
def SsU (s i : Nat) (L : List AN) (τ : RS) : Prop := ∀ x, x < i →
  let e := L.getD x aN0
  let k := 16 * s + x
  τ.1 107 k = e.1 ∧ τ.1 108 k = e.2.1 ∧ τ.1 109 k = e.2.2.1 ∧ τ.1 110 k = e.2.2.2.1 ∧ τ.1 111 k = Int32.ofNat e.2.2.2.2.length ∧ ∀ j, j < e.2.2.2.2.length → τ.1 112 (112 * k + j) = e.2.2.2.2.getD j 0
theorem RMc_u {τ : RS} {s : Nat} {M : AM} (w : wfM M) (h1 : τ.1 106 s = Int32.ofNat M.1.length) (h2 : τ.1 113 s = Int32.ofNat M.2.length) (h3 : SsU s M.1.length M.1 τ) (h4 : KsU s M.2.length M.2 τ) : RMc τ s M := by
  have hl := w.2.1
  have hr : ∀ x, x < M.2.length → (List.range M.2.length).getD x 0 = x := by
    intro x hx
    rw [List.getD_eq_getElem?_getD, List.getElem?_range hx]
    rfl
  refine ⟨w, h1, h2, h3, List.range M.2.length, List.length_range, List.nodup_range, fun k hk => by have := List.mem_range.mp hk; omega, fun k hk => ?_, fun i hi => ?_⟩
  · rw [h4.1 k hk]
    by_cases q : k < M.2.length
    · rw [if_pos q, if_pos (List.mem_range.mpr q)]
    · rw [if_neg q, if_neg (fun z => q (List.mem_range.mp z))]
  · dsimp only
    rw [hr i hi]
    exact h4.2 i hi
theorem un74 {F : Nat} {σ : RS} {s : Nat} {M : AM} (hF : 400 ≤ F) (hs : s < 7) (w : wfM M) (hB : ∀ i, i < (aEnc M).length → σ.1 66 (14000 * s + i) = (aEnc M).getD i 0) (h106 : σ.1 106 s = Int32.ofNat M.1.length) (h119 : ∀ k, k < 128 → σ.1 119 (128 * s + k) = 0) :
    ∀ n i τ, 18 ≤ i + n → i ≤ M.1.length → SLu s σ τ → τ.1 146 0 = Int32.ofNat (a4 (Int32.ofNat M.1.length) ++ (M.1.take i).flatMap sEnc).length → (∀ f j, f = 106 ∨ 113 ≤ f ∧ f ≤ 119 → τ.1 f j = σ.1 f j) → SsU s i M.1 τ → WP (m_unpackAll_b74 F n τ (Int32.ofNat s) (Int32.ofNat (16 * s + i))) (fun τ' => SLu s σ τ' ∧ RMc τ' s M) := by
  obtain ⟨el, _⟩ := aEnc_len w
  have hl16 := w.1.1
  have hl128 := w.2.1
  intro n
  induction n with
  | zero => intro i τ h1 h2; omega
  | succ n ih =>
    intro i τ h1 h2 g1 g2 g3 g4
    unfold m_unpackAll_b74
    refine WP_ld rfl 7 (by decide +kernel) hs ?_
    rw [g3 106 s (Or.inl rfl), h106, show (16 : Int32) * Int32.ofNat s + Int32.ofNat M.1.length = Int32.ofNat (16 * s + M.1.length) from i_ma]
    refine WP_if (p := M.1.length ≤ i) (by rw [i_gei (by omega) (by omega)]; omega) (fun y => ?_) (fun y => ?_)
    · have : i = M.1.length := by omega
      subst this
      rw [List.take_length] at g2
      have hE1 : aEnc M = (a4 (Int32.ofNat M.1.length) ++ M.1.flatMap sEnc) ++ a4 (Int32.ofNat M.2.length) ++ M.2.flatMap kEnc := aEnc_e
      refine WP_eq (m_unpack_n (c := a4 (Int32.ofNat M.2.length)) hF hs hE1 (by omega) (by show (4 : Nat) ≤ 100; omega) g2 (SLu_66 g1 hB)) ?_
      rw [aCat_4]
      refine WP_st rfl 7 (by decide +kernel) hs ?_
      have s1 := SLu_I (f := 113) (i := s) (v := Int32.ofNat M.2.length) (SLu_I (f := 146) (i := 0) (v := Int32.ofNat ((a4 (Int32.ofNat M.1.length) ++ M.1.flatMap sEnc) ++ a4 (Int32.ofNat M.2.length)).length) g1 (Or.inr rfl)) (Or.inl (by unfold mOf; omega))
      have key := un205 (F := F) (σ := setI (setI τ 146 0 (Int32.ofNat ((a4 (Int32.ofNat M.1.length) ++ M.1.flatMap sEnc) ++ a4 (Int32.ofNat M.2.length)).length)) 113 s (Int32.ofNat M.2.length)) hF hs w hE1 (SLu_66 s1 hB) setI_e F 0 _ (by omega) (Nat.zero_le _) SLu_refl (by
        rw [setI_f (by decide), setI_e, List.take_zero, List.flatMap_nil, List.append_nil]) (fun _ _ _ _ => rfl) ⟨fun k hk => by
          rw [if_neg (by omega), setI_f (by decide), setI_f (by decide), g3 119 _ (Or.inr (by omega))]
          exact h119 k hk, fun x hx => absurd hx (Nat.not_lt_zero _)⟩
      refine WP_mono key ?_
      rintro τ' ⟨t1, t2, t3⟩
      refine ⟨⟨fun f j q1 q2 => (t1.1 f j q1 q2).trans (s1.1 f j q1 q2), t1.2.trans s1.2⟩, RMc_u w ?_ ?_ (fun x hx => ?_) t3⟩
      · rw [t2 106 s (by omega) (by omega), setI_f (by decide), setI_f (by decide), g3 106 s (Or.inl rfl)]
        exact h106
      · rw [t2 113 s (by omega) (by omega)]
        exact setI_e
      · have o : ∀ f j, 107 ≤ f → f ≤ 112 → τ'.1 f j = τ.1 f j := fun f j f1 f2 => by rw [t2 f j (by omega) (by omega), setI_f (by omega), setI_f (by omega)]
        obtain ⟨y1, y2, y3, y4, y5, y6⟩ := g4 x hx
        dsimp only
        rw [o 107 _ (by omega) (by omega), o 108 _ (by omega) (by omega), o 109 _ (by omega) (by omega), o 110 _ (by omega) (by omega), o 111 _ (by omega) (by omega)]
        exact ⟨y1, y2, y3, y4, y5, fun j hj => by rw [o 112 _ (by omega) (by omega)]; exact y6 j hj⟩
    · have hi : i < M.1.length := by omega
      obtain ⟨u1, u2⟩ := ses_get w hi
      have hsp := flat_split (f := sEnc) (d := aN0) hi
      have htk := flat_take (f := sEnc) (d := aN0) hi
      generalize hX : M.1.getD i aN0 = X at u1 u2 hsp htk
      have hE0 : aEnc M = (a4 (Int32.ofNat M.1.length) ++ (M.1.take i).flatMap sEnc) ++ a4 X.1 ++ (a4 X.2.1 ++ (a4 X.2.2.1 ++ (a4 X.2.2.2.1 ++ ([aLow8 (Int32.ofNat X.2.2.2.2.length >>> 8), aLow8 (Int32.ofNat X.2.2.2.2.length)] ++ (X.2.2.2.2 ++ ((M.1.drop (i + 1)).flatMap sEnc ++ (a4 (Int32.ofNat M.2.length) ++ M.2.flatMap kEnc))))))) := by
        rw [aEnc_e, hsp]
        unfold sEnc
        simp only [List.append_assoc]
      have hE1 : aEnc M = (a4 (Int32.ofNat M.1.length) ++ (M.1.take i).flatMap sEnc ++ a4 X.1) ++ a4 X.2.1 ++ (a4 X.2.2.1 ++ (a4 X.2.2.2.1 ++ ([aLow8 (Int32.ofNat X.2.2.2.2.length >>> 8), aLow8 (Int32.ofNat X.2.2.2.2.length)] ++ (X.2.2.2.2 ++ ((M.1.drop (i + 1)).flatMap sEnc ++ (a4 (Int32.ofNat M.2.length) ++ M.2.flatMap kEnc)))))) := by rw [hE0]; simp only [List.append_assoc]
      have hE2 : aEnc M = (a4 (Int32.ofNat M.1.length) ++ (M.1.take i).flatMap sEnc ++ a4 X.1 ++ a4 X.2.1) ++ a4 X.2.2.1 ++ (a4 X.2.2.2.1 ++ ([aLow8 (Int32.ofNat X.2.2.2.2.length >>> 8), aLow8 (Int32.ofNat X.2.2.2.2.length)] ++ (X.2.2.2.2 ++ ((M.1.drop (i + 1)).flatMap sEnc ++ (a4 (Int32.ofNat M.2.length) ++ M.2.flatMap kEnc))))) := by rw [hE0]; simp only [List.append_assoc]
      have hE3 : aEnc M = (a4 (Int32.ofNat M.1.length) ++ (M.1.take i).flatMap sEnc ++ a4 X.1 ++ a4 X.2.1 ++ a4 X.2.2.1) ++ a4 X.2.2.2.1 ++ ([aLow8 (Int32.ofNat X.2.2.2.2.length >>> 8), aLow8 (Int32.ofNat X.2.2.2.2.length)] ++ (X.2.2.2.2 ++ ((M.1.drop (i + 1)).flatMap sEnc ++ (a4 (Int32.ofNat M.2.length) ++ M.2.flatMap kEnc)))) := by rw [hE0]; simp only [List.append_assoc]
      have hE4 : aEnc M = (a4 (Int32.ofNat M.1.length) ++ (M.1.take i).flatMap sEnc ++ a4 X.1 ++ a4 X.2.1 ++ a4 X.2.2.1 ++ a4 X.2.2.2.1) ++ [aLow8 (Int32.ofNat X.2.2.2.2.length >>> 8), aLow8 (Int32.ofNat X.2.2.2.2.length)] ++ (X.2.2.2.2 ++ ((M.1.drop (i + 1)).flatMap sEnc ++ (a4 (Int32.ofNat M.2.length) ++ M.2.flatMap kEnc))) := by rw [hE0]; simp only [List.append_assoc]
      have hE5 : aEnc M = (a4 (Int32.ofNat M.1.length) ++ (M.1.take i).flatMap sEnc ++ a4 X.1 ++ a4 X.2.1 ++ a4 X.2.2.1 ++ a4 X.2.2.2.1 ++ [aLow8 (Int32.ofNat X.2.2.2.2.length >>> 8), aLow8 (Int32.ofNat X.2.2.2.2.length)]) ++ X.2.2.2.2 ++ ((M.1.drop (i + 1)).flatMap sEnc ++ (a4 (Int32.ofNat M.2.length) ++ M.2.flatMap kEnc)) := by rw [hE0]; simp only [List.append_assoc]
      generalize (M.1.drop (i + 1)).flatMap sEnc ++ (a4 (Int32.ofNat M.2.length) ++ M.2.flatMap kEnc) = rest at hE0 hE1 hE2 hE3 hE4 hE5
      generalize hP : a4 (Int32.ofNat M.1.length) ++ (M.1.take i).flatMap sEnc = P at hE0 hE1 hE2 hE3 hE4 hE5 g2
      have hq : 16 * s + i < 112 := by omega
      have c4 : ∀ v : Int32, (a4 v).length ≤ 100 := fun v => by show (4 : Nat) ≤ 100; omega
      -- one number after the other
      have step : ∀ (τa : RS) (f : Nat) (v : Int32) (n0 : Int32), 107 ≤ f → f ≤ 111 → SLu s σ τa → SLu s σ (setI (setI τa 146 0 n0) f (16 * s + i) v) := fun τa f v n0 f1 f2 h => SLu_I (SLu_I h (Or.inr rfl)) (Or.inl (by unfold mOf; omega))
      refine WP_eq (m_unpack_n (c := a4 X.1) hF hs hE0 (by omega) (c4 _) g2 (SLu_66 g1 hB)) ?_
      rw [aCat_4]
      refine WP_st rfl 112 (by decide +kernel) hq ?_
      have s1 := step τ 107 X.1 (Int32.ofNat (P ++ a4 X.1).length) (by omega) (by omega) g1
      refine WP_eq (m_unpack_n (c := a4 X.2.1) hF hs hE1 (by omega) (c4 _) (by rw [setI_f (by decide), setI_e]) (SLu_66 s1 hB)) ?_
      rw [aCat_4]
      refine WP_st rfl 112 (by decide +kernel) hq ?_
      have s2 := step _ 108 X.2.1 (Int32.ofNat (P ++ a4 X.1 ++ a4 X.2.1).length) (by omega) (by omega) s1
      refine WP_eq (m_unpack_n (c := a4 X.2.2.1) hF hs hE2 (by omega) (c4 _) (by rw [setI_f (by decide), setI_e]) (SLu_66 s2 hB)) ?_
      rw [aCat_4]
      refine WP_st rfl 112 (by decide +kernel) hq ?_
      have s3 := step _ 109 X.2.2.1 (Int32.ofNat (P ++ a4 X.1 ++ a4 X.2.1 ++ a4 X.2.2.1).length) (by omega) (by omega) s2
      refine WP_eq (m_unpack_n (c := a4 X.2.2.2.1) hF hs hE3 (by omega) (c4 _) (by rw [setI_f (by decide), setI_e]) (SLu_66 s3 hB)) ?_
      rw [aCat_4]
      refine WP_st rfl 112 (by decide +kernel) hq ?_
      have s4 := step _ 110 X.2.2.2.1 (Int32.ofNat (P ++ a4 X.1 ++ a4 X.2.1 ++ a4 X.2.2.1 ++ a4 X.2.2.2.1).length) (by omega) (by omega) s3
      refine WP_eq (m_unpack_n (c := [aLow8 (Int32.ofNat X.2.2.2.2.length >>> 8), aLow8 (Int32.ofNat X.2.2.2.2.length)]) hF hs hE4 (by omega) (by simp) (by rw [setI_f (by decide), setI_e]) (SLu_66 s4 hB)) ?_
      rw [aCat_2 (by omega)]
      refine WP_st rfl 112 (by decide +kernel) hq ?_
      have s5 := step _ 111 (Int32.ofNat X.2.2.2.2.length) (Int32.ofNat (P ++ a4 X.1 ++ a4 X.2.1 ++ a4 X.2.2.1 ++ a4 X.2.2.2.1 ++ [aLow8 (Int32.ofNat X.2.2.2.2.length >>> 8), aLow8 (Int32.ofNat X.2.2.2.2.length)]).length) (by omega) (by omega) s4
      have v107 : (setI (setI (setI (setI (setI (setI (setI (setI (setI (setI τ 146 0 (Int32.ofNat (P ++ a4 X.1).length)) 107 (16 * s + i) X.1) 146 0 (Int32.ofNat (P ++ a4 X.1 ++ a4 X.2.1).length)) 108 (16 * s + i) X.2.1) 146 0 (Int32.ofNat (P ++ a4 X.1 ++ a4 X.2.1 ++ a4 X.2.2.1).length)) 109 (16 * s + i) X.2.2.1) 146 0 (Int32.ofNat (P ++ a4 X.1 ++ a4 X.2.1 ++ a4 X.2.2.1 ++ a4 X.2.2.2.1).length)) 110 (16 * s + i) X.2.2.2.1) 146 0 (Int32.ofNat (P ++ a4 X.1 ++ a4 X.2.1 ++ a4 X.2.2.1 ++ a4 X.2.2.2.1 ++ [aLow8 (Int32.ofNat X.2.2.2.2.length >>> 8), aLow8 (Int32.ofNat X.2.2.2.2.length)]).length)) 111 (16 * s + i) (Int32.ofNat X.2.2.2.2.length)).1 107 (16 * s + i) = X.1 := by
        rw [setI_f (by decide), setI_f (by decide), setI_f (by decide), setI_f (by decide), setI_f (by decide), setI_f (by decide), setI_f (by decide), setI_f (by decide), setI_e]
      have v108 : (setI (setI (setI (setI (setI (setI (setI (setI (setI (setI τ 146 0 (Int32.ofNat (P ++ a4 X.1).length)) 107 (16 * s + i) X.1) 146 0 (Int32.ofNat (P ++ a4 X.1 ++ a4 X.2.1).length)) 108 (16 * s + i) X.2.1) 146 0 (Int32.ofNat (P ++ a4 X.1 ++ a4 X.2.1 ++ a4 X.2.2.1).length)) 109 (16 * s + i) X.2.2.1) 146 0 (Int32.ofNat (P ++ a4 X.1 ++ a4 X.2.1 ++ a4 X.2.2.1 ++ a4 X.2.2.2.1).length)) 110 (16 * s + i) X.2.2.2.1) 146 0 (Int32.ofNat (P ++ a4 X.1 ++ a4 X.2.1 ++ a4 X.2.2.1 ++ a4 X.2.2.2.1 ++ [aLow8 (Int32.ofNat X.2.2.2.2.length >>> 8), aLow8 (Int32.ofNat X.2.2.2.2.length)]).length)) 111 (16 * s + i) (Int32.ofNat X.2.2.2.2.length)).1 108 (16 * s + i) = X.2.1 := by
        rw [setI_f (by decide), setI_f (by decide), setI_f (by decide), setI_f (by decide), setI_f (by decide), setI_f (by decide), setI_e]
      have v109 : (setI (setI (setI (setI (setI (setI (setI (setI (setI (setI τ 146 0 (Int32.ofNat (P ++ a4 X.1).length)) 107 (16 * s + i) X.1) 146 0 (Int32.ofNat (P ++ a4 X.1 ++ a4 X.2.1).length)) 108 (16 * s + i) X.2.1) 146 0 (Int32.ofNat (P ++ a4 X.1 ++ a4 X.2.1 ++ a4 X.2.2.1).length)) 109 (16 * s + i) X.2.2.1) 146 0 (Int32.ofNat (P ++ a4 X.1 ++ a4 X.2.1 ++ a4 X.2.2.1 ++ a4 X.2.2.2.1).length)) 110 (16 * s + i) X.2.2.2.1) 146 0 (Int32.ofNat (P ++ a4 X.1 ++ a4 X.2.1 ++ a4 X.2.2.1 ++ a4 X.2.2.2.1 ++ [aLow8 (Int32.ofNat X.2.2.2.2.length >>> 8), aLow8 (Int32.ofNat X.2.2.2.2.length)]).length)) 111 (16 * s + i) (Int32.ofNat X.2.2.2.2.length)).1 109 (16 * s + i) = X.2.2.1 := by
        rw [setI_f (by decide), setI_f (by decide), setI_f (by decide), setI_f (by decide), setI_e]
      have v110 : (setI (setI (setI (setI (setI (setI (setI (setI (setI (setI τ 146 0 (Int32.ofNat (P ++ a4 X.1).length)) 107 (16 * s + i) X.1) 146 0 (Int32.ofNat (P ++ a4 X.1 ++ a4 X.2.1).length)) 108 (16 * s + i) X.2.1) 146 0 (Int32.ofNat (P ++ a4 X.1 ++ a4 X.2.1 ++ a4 X.2.2.1).length)) 109 (16 * s + i) X.2.2.1) 146 0 (Int32.ofNat (P ++ a4 X.1 ++ a4 X.2.1 ++ a4 X.2.2.1 ++ a4 X.2.2.2.1).length)) 110 (16 * s + i) X.2.2.2.1) 146 0 (Int32.ofNat (P ++ a4 X.1 ++ a4 X.2.1 ++ a4 X.2.2.1 ++ a4 X.2.2.2.1 ++ [aLow8 (Int32.ofNat X.2.2.2.2.length >>> 8), aLow8 (Int32.ofNat X.2.2.2.2.length)]).length)) 111 (16 * s + i) (Int32.ofNat X.2.2.2.2.length)).1 110 (16 * s + i) = X.2.2.2.1 := by
        rw [setI_f (by decide), setI_f (by decide), setI_e]
      have v111 : (setI (setI (setI (setI (setI (setI (setI (setI (setI (setI τ 146 0 (Int32.ofNat (P ++ a4 X.1).length)) 107 (16 * s + i) X.1) 146 0 (Int32.ofNat (P ++ a4 X.1 ++ a4 X.2.1).length)) 108 (16 * s + i) X.2.1) 146 0 (Int32.ofNat (P ++ a4 X.1 ++ a4 X.2.1 ++ a4 X.2.2.1).length)) 109 (16 * s + i) X.2.2.1) 146 0 (Int32.ofNat (P ++ a4 X.1 ++ a4 X.2.1 ++ a4 X.2.2.1 ++ a4 X.2.2.2.1).length)) 110 (16 * s + i) X.2.2.2.1) 146 0 (Int32.ofNat (P ++ a4 X.1 ++ a4 X.2.1 ++ a4 X.2.2.1 ++ a4 X.2.2.2.1 ++ [aLow8 (Int32.ofNat X.2.2.2.2.length >>> 8), aLow8 (Int32.ofNat X.2.2.2.2.length)]).length)) 111 (16 * s + i) (Int32.ofNat X.2.2.2.2.length)).1 111 (16 * s + i) = Int32.ofNat X.2.2.2.2.length := setI_e
      have v146 : (setI (setI (setI (setI (setI (setI (setI (setI (setI (setI τ 146 0 (Int32.ofNat (P ++ a4 X.1).length)) 107 (16 * s + i) X.1) 146 0 (Int32.ofNat (P ++ a4 X.1 ++ a4 X.2.1).length)) 108 (16 * s + i) X.2.1) 146 0 (Int32.ofNat (P ++ a4 X.1 ++ a4 X.2.1 ++ a4 X.2.2.1).length)) 109 (16 * s + i) X.2.2.1) 146 0 (Int32.ofNat (P ++ a4 X.1 ++ a4 X.2.1 ++ a4 X.2.2.1 ++ a4 X.2.2.2.1).length)) 110 (16 * s + i) X.2.2.2.1) 146 0 (Int32.ofNat (P ++ a4 X.1 ++ a4 X.2.1 ++ a4 X.2.2.1 ++ a4 X.2.2.2.1 ++ [aLow8 (Int32.ofNat X.2.2.2.2.length >>> 8), aLow8 (Int32.ofNat X.2.2.2.2.length)]).length)) 111 (16 * s + i) (Int32.ofNat X.2.2.2.2.length)).1 146 0 = Int32.ofNat (P ++ a4 X.1 ++ a4 X.2.1 ++ a4 X.2.2.1 ++ a4 X.2.2.2.1 ++ [aLow8 (Int32.ofNat X.2.2.2.2.length >>> 8), aLow8 (Int32.ofNat X.2.2.2.2.length)]).length := by
        rw [setI_f (by decide), setI_e]
      have vo : ∀ f j, f ≠ 146 → ¬ (107 ≤ f ∧ f ≤ 111 ∧ j = 16 * s + i) → (setI (setI (setI (setI (setI (setI (setI (setI (setI (setI τ 146 0 (Int32.ofNat (P ++ a4 X.1).length)) 107 (16 * s + i) X.1) 146 0 (Int32.ofNat (P ++ a4 X.1 ++ a4 X.2.1).length)) 108 (16 * s + i) X.2.1) 146 0 (Int32.ofNat (P ++ a4 X.1 ++ a4 X.2.1 ++ a4 X.2.2.1).length)) 109 (16 * s + i) X.2.2.1) 146 0 (Int32.ofNat (P ++ a4 X.1 ++ a4 X.2.1 ++ a4 X.2.2.1 ++ a4 X.2.2.2.1).length)) 110 (16 * s + i) X.2.2.2.1) 146 0 (Int32.ofNat (P ++ a4 X.1 ++ a4 X.2.1 ++ a4 X.2.2.1 ++ a4 X.2.2.2.1 ++ [aLow8 (Int32.ofNat X.2.2.2.2.length >>> 8), aLow8 (Int32.ofNat X.2.2.2.2.length)]).length)) 111 (16 * s + i) (Int32.ofNat X.2.2.2.2.length)).1 f j = τ.1 f j := by
        intro f j q1 q2
        have g : ∀ (ρ : RS) (g' i' : Nat) (v : Int32), g' = 146 ∨ (107 ≤ g' ∧ g' ≤ 111 ∧ i' = 16 * s + i) → (setI ρ g' i' v).1 f j = ρ.1 f j := by
          intro ρ g' i' v hg
          refine if_neg (fun z => ?_)
          rcases hg with hg | hg
          · exact q1 (z.1.trans hg)
          · exact q2 (by rw [z.1, z.2]; exact hg)
        have a : ∀ g', 107 ≤ g' → g' ≤ 111 → (g' = 146 ∨ (107 ≤ g' ∧ g' ≤ 111 ∧ 16 * s + i = 16 * s + i)) := fun g' g1 g2 => Or.inr ⟨g1, g2, rfl⟩
        rw [g _ 111 _ _ (a _ (by omega) (by omega)), g _ 146 _ _ (Or.inl rfl), g _ 110 _ _ (a _ (by omega) (by omega)), g _ 146 _ _ (Or.inl rfl), g _ 109 _ _ (a _ (by omega) (by omega)), g _ 146 _ _ (Or.inl rfl), g _ 108 _ _ (a _ (by omega) (by omega)), g _ 146 _ _ (Or.inl rfl), g _ 107 _ _ (a _ (by omega) (by omega)), g _ 146 _ _ (Or.inl rfl)]
      generalize setI (setI (setI (setI (setI (setI (setI (setI (setI (setI τ 146 0 (Int32.ofNat (P ++ a4 X.1).length)) 107 (16 * s + i) X.1) 146 0 (Int32.ofNat (P ++ a4 X.1 ++ a4 X.2.1).length)) 108 (16 * s + i) X.2.1) 146 0 (Int32.ofNat (P ++ a4 X.1 ++ a4 X.2.1 ++ a4 X.2.2.1).length)) 109 (16 * s + i) X.2.2.1) 146 0 (Int32.ofNat (P ++ a4 X.1 ++ a4 X.2.1 ++ a4 X.2.2.1 ++ a4 X.2.2.2.1).length)) 110 (16 * s + i) X.2.2.2.1) 146 0 (Int32.ofNat (P ++ a4 X.1 ++ a4 X.2.1 ++ a4 X.2.2.1 ++ a4 X.2.2.2.1 ++ [aLow8 (Int32.ofNat X.2.2.2.2.length >>> 8), aLow8 (Int32.ofNat X.2.2.2.2.length)]).length)) 111 (16 * s + i) (Int32.ofNat X.2.2.2.2.length) = τ5 at s5 v107 v108 v109 v110 v111 v146 vo
      refine un151 (σ := τ5) hs (by omega) hF u2 u1 hE5 (by omega) (SLu_66 s5 hB) v111 (fun τ6 k1 k2 k3 k4 => ?_) F 0 τ5 (by omega) (Nat.zero_le _) SLu_refl v146 (fun _ _ _ _ => rfl) (fun j hj => absurd hj (Nat.not_lt_zero _))
      rw [show 16 * s + i + 1 = 16 * s + (i + 1) by omega]
      refine ih (i + 1) τ6 (by omega) (by omega) ⟨fun f j q1 q2 => (k1.1 f j q1 q2).trans (s5.1 f j q1 q2), k1.2.trans s5.2⟩ ?_ (fun f j hf => ?_) (fun x hx => ?_)
      · rw [k2, htk, ← List.append_assoc, hP]
        unfold sEnc
        simp only [List.append_assoc]
      · rw [k3 f j (by omega) (by omega), vo f j (by omega) (by omega)]
        exact g3 f j hf
      · dsimp only
        by_cases z : x = i
        · rw [z, hX, k3 107 _ (by decide) (by omega), k3 108 _ (by decide) (by omega), k3 109 _ (by decide) (by omega), k3 110 _ (by decide) (by omega), k3 111 _ (by decide) (by omega)]
          exact ⟨v107, v108, v109, v110, v111, k4⟩
        · obtain ⟨y1, y2, y3, y4, y5, y6⟩ := g4 x (by omega)
          obtain ⟨x1, _⟩ := ses_get (i := x) w (by omega)
          rw [k3 107 _ (by decide) (by omega), k3 108 _ (by decide) (by omega), k3 109 _ (by decide) (by omega), k3 110 _ (by decide) (by omega), k3 111 _ (by decide) (by omega), vo 107 _ (by decide) (by omega), vo 108 _ (by decide) (by omega), vo 109 _ (by decide) (by omega), vo 110 _ (by decide) (by omega), vo 111 _ (by decide) (by omega)]
          refine ⟨y1, y2, y3, y4, y5, fun j hj => ?_⟩
          rw [k3 112 _ (by decide) (by omega), vo 112 _ (by decide) (by omega)]
          exact y6 j hj
theorem wf_nil : wfM ([], []) := ⟨⟨by simp, by decide⟩, by simp, fun x hx => absurd hx List.not_mem_nil, fun x hx => absurd hx List.not_mem_nil⟩
theorem m_unpackAll_n {F : Nat} {σ : RS} {s : Nat} {M : AM} (hF : 400 ≤ F) (hs : s < 7) (h : RSh σ s (σ.1 67 s) M) : WP (m_unpackAll F σ (Int32.ofNat s)) (fun τ => SLu s σ τ ∧ RMc τ s M) := by
  obtain ⟨w, hz⟩ := h
  have b16 : ∀ n k (τ : RS), 129 ≤ k + n → k ≤ 128 → SLu s σ τ → τ.1 106 s = 0 → τ.1 113 s = 0 → τ.1 67 s = σ.1 67 s → (∀ x, x < k → τ.1 119 (128 * s + x) = 0) → WP (m_unpackAll_b16 F n τ (Int32.ofNat s) (Int32.ofNat k)) (fun τ => SLu s σ τ ∧ RMc τ s M) := by
    intro n
    induction n with
    | zero => intro k τ h1 h2; omega
    | succ n ih =>
      intro k τ h1 h2 g1 g2 g3 g4 g5
      unfold m_unpackAll_b16
      refine WP_if (p := 128 ≤ k) (i_gei (q := 128) (by omega) (by omega)) (fun y => ?_) (fun y => ?_)
      · have : k = 128 := by omega
        subst this
        refine WP_ld rfl 7 (by decide +kernel) hs ?_
        rw [g4]
        rcases hz with ⟨z1, z2⟩ | ⟨z1, z2, z3⟩
        · rw [z1]
          refine WP_if c0_ne (fun y => absurd rfl y) (fun _ => ?_)
          refine WP_some ⟨g1, ?_⟩
          rw [z2]
          exact RMc_u wf_nil g2 g3 (fun x hx => absurd hx (Nat.not_lt_zero _)) ⟨fun k hk => by rw [if_neg (by show ¬ k < 0; omega)]; exact g5 k hk, fun x hx => absurd hx (Nat.not_lt_zero _)⟩
        · obtain ⟨_, el8⟩ := aEnc_len w
          rw [z1]
          refine WP_if c0_ne (fun _ => ?_) (fun y => ?_)
          · show WP ((m_unpack F (setI τ 146 0 0) (Int32.ofNat s) 4).bind _) _
            have s1 : SLu s σ (setI τ 146 0 0) := SLu_I g1 (Or.inr rfl)
            have hE : aEnc M = [] ++ a4 (Int32.ofNat M.1.length) ++ (M.1.flatMap sEnc ++ (a4 (Int32.ofNat M.2.length) ++ M.2.flatMap kEnc)) := by
              rw [aEnc_e, List.nil_append]
              simp only [List.append_assoc]
            refine WP_eq (m_unpack_n (c := a4 (Int32.ofNat M.1.length)) hF hs hE (by omega) (by show (4 : Nat) ≤ 100; omega) setI_e (SLu_66 s1 z3)) ?_
            rw [aCat_4]
            refine WP_st rfl 7 (by decide +kernel) hs ?_
            have s2 := SLu_I (f := 106) (i := s) (v := Int32.ofNat M.1.length) (SLu_I (f := 146) (i := 0) (v := Int32.ofNat ([] ++ a4 (Int32.ofNat M.1.length)).length) s1 (Or.inr rfl)) (Or.inl (by unfold mOf; omega))
            rw [show (16 : Int32) * Int32.ofNat s = Int32.ofNat (16 * s + 0) from i_mc]
            refine WP_mono (un74 (F := F) hF hs w (SLu_66 s2 z3) setI_e (fun k hk => by rw [setI_f (by decide), setI_f (by decide), setI_f (by decide)]; exact g5 k hk) F 0 _ (by omega) (Nat.zero_le _) SLu_refl (by rw [setI_f (by decide), setI_e]; rfl) (fun _ _ _ => rfl) (fun x hx => absurd hx (Nat.not_lt_zero _))) ?_
            rintro τ' ⟨t1, t2⟩
            exact ⟨⟨fun f j q1 q2 => (t1.1 f j q1 q2).trans (s2.1 f j q1 q2), t1.2.trans s2.2⟩, t2⟩
          · have := Classical.not_not.mp y
            rw [show (0 : Int32) = Int32.ofNat 0 from rfl, i_eqi (by omega) (by omega)] at this
            omega
      · rw [show (128 : Int32) * Int32.ofNat s + Int32.ofNat k = Int32.ofNat (128 * s + k) from i_ma]
        refine WP_st rfl 896 (by decide +kernel) (by omega) ?_
        rw [i_s]
        refine ih (k + 1) _ (by omega) (by omega) (SLu_I g1 (Or.inl (by unfold mOf; omega))) ((setI_f (by decide)).trans g2) ((setI_f (by decide)).trans g3) ((setI_f (by decide)).trans g4) (fun x hx => ?_)
        by_cases z : x = k
        · rw [z, setI_e]
          rfl
        · rw [setI_i (by omega)]
          exact g5 x (by omega)
  unfold m_unpackAll m_unpackAll_b0
  refine WP_st rfl 7 (by decide +kernel) hs ?_
  refine WP_st rfl 7 (by decide +kernel) hs ?_
  exact b16 F 0 _ (by omega) (Nat.zero_le _) (SLu_I (SLu_I SLu_refl (Or.inl (by unfold mOf; omega))) (Or.inl (by unfold mOf; omega))) (by rw [setI_f (by decide), setI_e]) setI_e (by rw [setI_f (by decide), setI_f (by decide)]) (fun x hx => absurd hx (Nat.not_lt_zero _))
