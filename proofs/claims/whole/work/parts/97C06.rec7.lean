/-! the segment that is read first -/
theorem i_nneg {n : Nat} (h : n < 2147483648) : ¬ (Int32.ofNat n < 0) := i_nn h
theorem setI_no {σ : RS} {f g i j : Nat} {v : Int32} (h : ¬ (g = f ∧ i = j)) : (setI σ f j v).1 g i = σ.1 g i := by
  by_cases q : g = f
  · subst q
    exact setI_i (fun z => h ⟨rfl, z⟩)
  · exact setI_f q
def ftF (a : AA) (s b : Nat) (r : List Nat) : Int32 := match aFirstSeg a s (Int32.ofNat b) r with
  | some g => Int32.ofNat g
  | none => -1
theorem seg_dr {k : Nat} (h : k < 12) : aSegs.drop k = (k + 4) :: aSegs.drop (k + 1) := by
  have h12 : k < aSegs.length := h
  rw [List.drop_eq_getElem_cons h12]
  have e1 : aSegs[k] = k + 4 := by
    have : k = 0 ∨ k = 1 ∨ k = 2 ∨ k = 3 ∨ k = 4 ∨ k = 5 ∨ k = 6 ∨ k = 7 ∨ k = 8 ∨ k = 9 ∨ k = 10 ∨ k = 11 := by omega
    rcases this with rfl | rfl | rfl | rfl | rfl | rfl | rfl | rfl | rfl | rfl | rfl | rfl <;> rfl
  rw [e1]
theorem first_mem {a : AA} {s f : Nat} {b : Int32} : ∀ {r : List Nat}, aFirstSeg a s b r = some f → f ∈ r ∧ aIsSeg a s f = true ∧ (aFc a s f).1 2 ≤ b + 1 ∧ ∀ g ∈ r, aIsSeg a s g = true → (aFc a s g).1 2 ≤ b + 1 → (aFc a s g).1 2 ≤ (aFc a s f).1 2
  | [], h => by cases h
  | x :: r, h => by
    unfold aFirstSeg at h
    dsimp only at h
    cases hr : aFirstSeg a s b r with
    | none =>
      rw [hr] at h
      dsimp only at h
      have hno : ∀ (q : List Nat), aFirstSeg a s b q = none → ∀ g ∈ q, aIsSeg a s g = true → ¬ (aFc a s g).1 2 ≤ b + 1 := by
        intro q
        induction q with
        | nil => intro _ g hg; cases hg
        | cons y q ih =>
          intro hq g hg h1 h2
          unfold aFirstSeg at hq
          dsimp only at hq
          cases hq2 : aFirstSeg a s b q with
          | none =>
            rw [hq2] at hq
            dsimp only at hq
            rcases List.mem_cons.mp hg with rfl | hg
            · rw [h1, decide_eq_true h2] at hq
              cases hq
            · exact ih hq2 g hg h1 h2
          | some z =>
            rw [hq2] at hq
            dsimp only at hq
            split at hq <;> cases hq
      split at h
      · rename_i q
        cases h
        rw [Bool.and_eq_true, decide_eq_true_eq] at q
        refine ⟨List.mem_cons_self, q.1, q.2, fun g hg h1 h2 => ?_⟩
        rcases List.mem_cons.mp hg with rfl | hg
        · exact Int32.le_refl _
        · exact absurd h2 (hno r hr g hg h1)
      · cases h
    | some g =>
      rw [hr] at h
      dsimp only at h
      obtain ⟨i1, i2, i3, i4⟩ := first_mem hr
      split at h
      · rename_i q
        cases h
        rw [Bool.and_eq_true, Bool.and_eq_true, decide_eq_true_eq, decide_eq_true_eq] at q
        refine ⟨List.mem_cons_self, q.1.1, q.1.2, fun y hy h1 h2 => ?_⟩
        rcases List.mem_cons.mp hy with rfl | hy
        · exact Int32.le_refl _
        · exact Int32.le_trans (i4 y hy h1 h2) q.2
      · rename_i q
        cases h
        refine ⟨List.mem_cons_of_mem _ i1, i2, i3, fun y hy h1 h2 => ?_⟩
        rcases List.mem_cons.mp hy with rfl | hy
        · rw [h1, decide_eq_true h2, Bool.true_and, Bool.true_and, decide_eq_true_eq] at q
          exact Int32.le_of_lt (Int32.not_le.mp q)
        · exact i4 y hy h1 h2
theorem seg_first {F : Nat} {K : List AK} {σ τ : RS} {a : AA} {s b : Nat} {Q : RS → Prop} (hs : s < 7) (hk : sgOK K σ a s) (hr : RcS K σ a s b τ [] []) (e55 : σ.1 55 s = Int32.ofNat b) :
    (∀ n, WP (m_recoverLog_b24 F (n + 1) τ (Int32.ofNat s) (ftF a s b aSegs) 3) Q) → ∀ (m n : Nat), m ≤ 12 → m + 1 ≤ n → WP (m_recoverLog_b24 F n τ (Int32.ofNat s) (ftF a s b (aSegs.drop m)) (Int32.ofNat (m + 3))) Q := by
  intro fin m
  have e36 : τ.2 36 = σ.2 36 := by
    funext j
    exact hr.2.1 36 j (by omega)
  have q55 : τ.1 55 s = Int32.ofNat b := by rw [hr.1 55 s (by unfold rcO; omega)]; exact e55
  induction m with
  | zero =>
    intro n _ hn
    obtain ⟨n', rfl⟩ : ∃ n', n = n' + 1 := ⟨n - 1, by omega⟩
    exact fin n'
  | succ m ih =>
    intro n hm hn
    obtain ⟨n', rfl⟩ : ∃ n', n = n' + 1 := ⟨n - 1, by omega⟩
    unfold m_recoverLog_b24
    refine WP_if c2_lt (fun y => ?_) (fun _ => ?_)
    · exfalso
      have := Int32.not_le.mpr y
      exact this ((i_ltn (p := 4) (q := m + 1 + 3) (by omega) (by omega)).mpr (by omega))
    have h4 : 4 ≤ m + 4 := by omega
    have h16 : m + 4 < 16 := by omega
    rw [show m + 1 + 3 = m + 4 by omega]
    refine WP_eq (M_isSegment hs hk hr h4 h16) ?_
    have nx : ∀ x, x = ftF a s b (aSegs.drop m) → WP (m_recoverLog_b94 F (m_recoverLog_b24 F n') τ (Int32.ofNat s) x (Int32.ofNat (m + 4))) Q := by
      intro x hx
      unfold m_recoverLog_b94
      rw [hx, i_add1m (by omega), show m + 4 - 1 = m + 3 by omega]
      exact ih n' (by omega) (by omega)
    have e0 : ftF a s b (aSegs.drop m) = match (match aFirstSeg a s (Int32.ofNat b) (aSegs.drop (m + 1)) with
      | none => if (aIsSeg a s (m + 4) && decide ((aFc a s (m + 4)).1 2 ≤ Int32.ofNat b + 1)) = true then some (m + 4) else none
      | some g => if ((aIsSeg a s (m + 4) && decide ((aFc a s (m + 4)).1 2 ≤ Int32.ofNat b + 1)) && decide ((aFc a s g).1 2 ≤ (aFc a s (m + 4)).1 2)) = true then some (m + 4) else some g) with
      | some g => Int32.ofNat g
      | none => -1 := by
      unfold ftF
      rw [seg_dr (by omega)]
      rfl
    cases hb : aIsSeg a s (m + 4) with
    | false =>
      refine WP_if c0_eq (fun _ => ?_) (fun y => absurd rfl y)
      refine nx _ ?_
      rw [e0, hb]
      unfold ftF
      cases aFirstSeg a s (Int32.ofNat b) (aSegs.drop (m + 1)) with
      | none => rfl
      | some g => rfl
    | true =>
      refine WP_if c0_eq (fun y => absurd (show (1 : Int32) = 0 from y) (by decide)) (fun _ => ?_)
      obtain ⟨S, hS⟩ := ((hk (m + 4) h4 h16).2.2.2.2 hb).1
      obtain ⟨rd1, rd2⟩ := seg_head hS e36
      refine WP_eq m_fileOf_n (WP_eq rd1 (WP_ld rfl 7 (by decide +kernel) hs ?_))
      rw [q55]
      refine WP_if c2_le (fun y => ?_) (fun y => ?_)
      · have y : (aFc a s (m + 4)).1 2 ≤ Int32.ofNat b + 1 := y
        cases hf : aFirstSeg a s (Int32.ofNat b) (aSegs.drop (m + 1)) with
        | none =>
          have e1 : ftF a s b (aSegs.drop (m + 1)) = -1 := by
            unfold ftF
            rw [hf]
          rw [e1]
          refine WP_if c0_lt (fun _ => ?_) (fun z => absurd (by decide) z)
          unfold m_recoverLog_b92
          refine nx _ ?_
          rw [e0, hf, hb, decide_eq_true y]
          rfl
        | some g =>
          have e1 : ftF a s b (aSegs.drop (m + 1)) = Int32.ofNat g := by
            unfold ftF
            rw [hf]
          obtain ⟨i1, i2, i3, i4⟩ := first_mem hf
          have gm := seg_mem.mp (List.mem_of_mem_drop i1)
          obtain ⟨S2, hS2⟩ := ((hk g gm.1 gm.2).2.2.2.2 i2).1
          obtain ⟨rd3, rd4⟩ := seg_head hS2 e36
          rw [e1]
          refine WP_if c0_lt (fun z => absurd z (i_nn (by omega))) (fun _ => ?_)
          refine WP_eq m_fileOf_n (WP_eq rd1 (WP_eq m_fileOf_n (WP_eq rd3 ?_)))
          refine WP_if c2_lt (fun z => ?_) (fun z => ?_)
          · refine nx _ ?_
            rw [e0, hf, hb, decide_eq_true y]
            dsimp only
            rw [decide_eq_false (Int32.not_le.mpr z)]
            rfl
          · unfold m_recoverLog_b92
            refine nx _ ?_
            rw [e0, hf, hb, decide_eq_true y]
            dsimp only
            rw [decide_eq_true (Int32.not_lt.mp z)]
            rfl
      · refine nx _ ?_
        rw [e0, hb, decide_eq_false y]
        unfold ftF
        cases aFirstSeg a s (Int32.ofNat b) (aSegs.drop (m + 1)) with
        | none => rfl
        | some g => rfl
/-- what is in memory when all is read -/
def RdE (K : List AK) (σ : RS) (a : AA) (s b : Nat) (τ : RS) (c : List Nat) (es : List AE) : Prop :=
  ∃ (done : List Nat) (L : List (AE × Int32)), ((c = done ∧ es = L.map Prod.fst) ∨ (c = [] ∧ es = [])) ∧
    (∀ f i, ¬ rcO f i s done → ¬ (f = 56 ∧ i = s) → τ.1 f i = σ.1 f i) ∧ (∀ f i, ¬ (f = 63 ∧ i / 16384 = s) → τ.2 f i = σ.2 f i) ∧
    τ.1 49 s = Int32.ofNat c.length ∧ done.length ≤ 12 ∧ (∀ i, i < done.length → τ.1 50 (12 * s + i) = Int32.ofNat (done.getD i 0) ∧ τ.1 51 (12 * s + i) = (aFc a s (done.getD i 0)).1 2) ∧
    (∀ g ∈ done, 4 ≤ g ∧ g < 16 ∧ aIsSeg a s g = true ∧ τ.1 37 (2 * (16 * s + g)) = Int32.ofNat (ofW K a s g) ∧ (τ.1 44 (16 * s + g) = 1 ∨ (τ.1 44 (16 * s + g) = σ.1 44 (16 * s + g) ∧ τ.1 37 (2 * (16 * s + g)) = σ.1 37 (2 * (16 * s + g))))) ∧
    Lgs K τ s b L ∧ (∀ g ∈ done, ∀ k i, k < wlN a s g → i < L.length → b + 1 + i = fsN a s g + k → L.getD i (aE0, 0) = ((aFc a s g).2.1.getD k aE0, Int32.ofNat (ofs K (aFc a s g).2.1 k))) ∧
    τ.1 56 s = Int32.ofNat (b + es.length)
theorem Lgs_st {K : List AK} {τ : RS} {s b f i : Nat} {v : Int32} {L : List (AE × Int32)} (hf : ¬ (59 ≤ f ∧ f ≤ 62)) (h : Lgs K τ s b L) : Lgs K (setI τ f i v) s b L := by
  intro j hj
  obtain ⟨z1, z2, z3, z4, z5, z6, z7⟩ := h j hj
  have e : ∀ g x, 59 ≤ g → g ≤ 62 → (setI τ f i v).1 g x = τ.1 g x := fun g x h1 h2 => by rw [setI_f (by omega)]
  exact ⟨(e 59 _ (by omega) (by omega)).trans z1, (e 60 _ (by omega) (by omega)).trans z2, (e 61 _ (by omega) (by omega)).trans z3, z4, z5, z6, (e 62 _ (by omega) (by omega)).trans z7⟩
theorem rd_end {F n : Nat} {K : List AK} {σ τ : RS} {a : AA} {s b : Nat} {done c : List Nat} {es : List AE} {L : List (AE × Int32)} {m z : Bool} {t l3 : Int32} {Q : RS → Prop} (hs : s < 7) (hr : RcS K σ a s b τ done L) (e56 : σ.1 56 s = Int32.ofNat b) (hl : z = true → l3 = Int32.ofNat (b + L.length)) (hc : if (z && m) = true then c = done ∧ es = L.map Prod.fst else c = [] ∧ es = []) (fin : ∀ τ', RdE K σ a s b τ' c es → WP (m_recoverLog_b569 F τ' (Int32.ofNat s)) Q) :
    WP (m_recoverLog_b196 F (n + 1) τ (Int32.ofNat s) (-1) l3 t (aB m) (aB z)) Q := by
  obtain ⟨r1, r2, r3, r4, r5, r6, r7, r8⟩ := hr
  have no : (z && m) = false → WP (m_recoverLog_b552 F τ (Int32.ofNat s)) Q := by
    intro hf
    rw [hf, if_neg (by decide)] at hc
    unfold m_recoverLog_b552
    refine WP_st rfl 7 (by decide +kernel) hs ?_
    refine fin _ ⟨done, L, Or.inr hc, fun f i h1 h2 => ?_, r2, ?_, r4, fun i hi => ?_, fun g hg => ?_, Lgs_st (by omega) r7, r8, ?_⟩
    · rw [setI_no (fun y => h1 (Or.inr (Or.inr (Or.inl y))))]
      exact r1 f i h1
    · rw [setI_e, hc.1]
      rfl
    · rw [setI_f (by decide), setI_f (by decide)]
      exact r5 i hi
    · rw [setI_f (by decide), setI_f (by decide)]
      exact r6 g hg
    · rw [setI_f (by decide), r1 56 s (by unfold rcO; omega), e56, hc.2]
      rfl
  unfold m_recoverLog_b196
  refine WP_if c0_lt (fun _ => ?_) (fun y => absurd (by decide) y)
  cases z with
  | false =>
    refine WP_if c0_eq (fun _ => no rfl) (fun y => absurd rfl y)
  | true =>
    refine WP_if c0_eq (fun y => absurd (show (1 : Int32) = 0 from y) (by decide)) (fun _ => ?_)
    cases m with
    | false =>
      refine WP_if c0_ne (fun y => absurd rfl y) (fun _ => no rfl)
    | true =>
      refine WP_if c0_ne (fun _ => ?_) (fun y => absurd (fun w => absurd (show (1 : Int32) = 0 from w) (by decide)) y)
      rw [if_pos (show (true && true) = true from rfl)] at hc
      refine WP_st rfl 7 (by decide +kernel) hs ?_
      refine fin _ ⟨done, L, Or.inl hc, fun f i h1 h2 => ?_, r2, ?_, r4, fun i hi => ?_, fun g hg => ?_, Lgs_st (by omega) r7, r8, ?_⟩
      · rw [setI_no h2]
        exact r1 f i h1
      · rw [setI_f (by decide), r3, hc.1]
      · rw [setI_f (by decide), setI_f (by decide)]
        exact r5 i hi
      · rw [setI_f (by decide), setI_f (by decide)]
        exact r6 g hg
      · rw [setI_e, hl rfl, hc.2, List.length_map]
