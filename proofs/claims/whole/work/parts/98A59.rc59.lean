/-! whether entries fit -/
theorem K_runStart {F : Nat} {c : CS} {a : AA} {v : CV} {s : Nat} {p : Int32} (hF : 310 ≤ F) (h : RC c a v) (hs : s < 7) (w : WLg a s) (h1 : aBase a s ≤ p) (h2 : p ≤ aLast a s) : k_Log_runStart F c s p = some (aRunStart a s 300 (if p = aBase a s then p + 1 else p)) := by
  obtain ⟨w1, w2, w3, w4⟩ := id w
  have e55 : cI c 9 s 3 0 = aBase a s := K_r h (F := 55) (cl := 9) (f := 3) (by decide) hs
  have hb1 : (aBase a s + 1).toInt = (aBase a s).toInt + 1 := i_succ (by omega)
  rw [Int32.le_iff_toInt_le] at h1 h2
  have est : ∃ j, j ≤ (aLg a s).length ∧ (if p = aBase a s then p + 1 else p) = aBase a s + 1 + Int32.ofNat j ∧ cmax p (aBase a s + 1) = aBase a s + 1 + Int32.ofNat j := by
    by_cases q : p = aBase a s
    · refine ⟨0, Nat.zero_le _, ?_, ?_⟩
      · rw [if_pos q, q]
        exact (Int32.add_zero _).symm
      · rw [q, cmax_a]
        unfold aMax
        rw [if_pos (by rw [Int32.le_iff_toInt_le, hb1]; omega)]
        exact (Int32.add_zero _).symm
    · have hlt : (aBase a s).toInt < p.toInt := by
        rcases Int.lt_or_eq_of_le h1 with z | z
        · exact z
        · exact absurd (Int32.toInt_inj.mp z.symm) q
      have hj : ((p.toInt - (aBase a s).toInt - 1).toNat : Int) = p.toInt - (aBase a s).toInt - 1 := Int.toNat_of_nonneg (by omega)
      have hle : (p.toInt - (aBase a s).toInt - 1).toNat ≤ (aLg a s).length := by omega
      have en := aB_n w hle
      have ep : p = aBase a s + 1 + Int32.ofNat (p.toInt - (aBase a s).toInt - 1).toNat := by
        apply Int32.toInt_inj.mp
        rw [en]
        omega
      refine ⟨_, hle, ?_, ?_⟩
      · rw [if_neg q]
        exact ep
      · rw [cmax_a]
        unfold aMax
        by_cases z : p ≤ aBase a s + 1
        · rw [if_pos z]
          rw [Int32.le_iff_toInt_le, hb1] at z
          have : (p.toInt - (aBase a s).toInt - 1).toNat = 0 := by omega
          rw [this]
          exact (Int32.add_zero _).symm
        · rw [if_neg z]
          exact ep
  obtain ⟨j, j1, j2, j3⟩ := est
  have key : ∀ n j m, j + 1 ≤ n → j ≤ m → j ≤ (aLg a s).length → k_Log_runStart_b17 F n c s (aBase a s + 1 + Int32.ofNat j) (aTermAt a s (aBase a s + 1 + Int32.ofNat j)) = some (aRunStart a s m (aBase a s + 1 + Int32.ofNat j)) := by
    intro n
    induction n with
    | zero => intro j m g1; omega
    | succ n ih =>
      intro j m g1 g2 g3
      have en := aB_n w g3
      unfold k_Log_runStart_b17 k_Log_runStart_b44
      dsimp only
      rw [e55]
      by_cases q : j = 0
      · subst q
        have e0 : aBase a s + 1 + Int32.ofNat 0 = aBase a s + 1 := Int32.add_zero _
        rw [e0, if_pos (c2_le.mpr (Int32.le_refl _))]
        cases m with
        | zero => rfl
        | succ m =>
          show some (aBase a s + 1) = some (if aBase a s + 1 < aBase a s + 1 ∧ _ then _ else aBase a s + 1)
          rw [if_neg (fun z => Int32.lt_irrefl z.1)]
      · obtain ⟨i, rfl⟩ : ∃ i, j = i + 1 := ⟨j - 1, by omega⟩
        obtain ⟨m, rfl⟩ : ∃ k, m = k + 1 := ⟨m - 1, by omega⟩
        have hlt : aBase a s + 1 < aBase a s + 1 + Int32.ofNat (i + 1) := by
          rw [Int32.lt_iff_toInt_lt, en, hb1]
          omega
        rw [if_neg (fun z => (i_nle.mpr hlt) (c2_le.mp z)), K_termAt h hs w, Option.bind_some]
        have epre : aBase a s + 1 + Int32.ofNat (i + 1) - 1 = aBase a s + 1 + Int32.ofNat i := by
          rw [← i_s, ← Int32.add_assoc, Int32.add_sub_cancel]
        have epre2 : aBase a s + 1 + Int32.ofNat (i + 1) + (-1) = aBase a s + 1 + Int32.ofNat i := by
          rw [neg1_add]
          exact epre
        rw [epre, epre2]
        show _ = some (if aBase a s + 1 < aBase a s + 1 + Int32.ofNat (i + 1) ∧ aTermAt a s (aBase a s + 1 + Int32.ofNat (i + 1) - 1) = aTermAt a s (aBase a s + 1 + Int32.ofNat (i + 1)) then aRunStart a s m (aBase a s + 1 + Int32.ofNat (i + 1) - 1) else aBase a s + 1 + Int32.ofNat (i + 1))
        rw [epre]
        by_cases z : aTermAt a s (aBase a s + 1 + Int32.ofNat i) = aTermAt a s (aBase a s + 1 + Int32.ofNat (i + 1))
        · rw [if_neg (fun y => c2_ne.mp y z), if_pos ⟨hlt, z⟩, ← z]
          exact ih i m (by omega) (by omega) (by omega)
        · rw [if_pos (c2_ne.mpr z), if_neg (fun y => z y.2)]
  unfold k_Log_runStart k_Log_runStart_b0
  rw [e55, j3, j2, K_termAt h hs w, Option.bind_some]
  exact key F j 300 (by omega) (by omega) j1
/-- what comes of it: whether entries are taken -/
def fitA (a : AA) (s : Nat) (l : AL) : AA × Bool :=
  if l.1 5 < aS a 53 s then (aAppended a s (l.1 2) 0 0 0, false)
  else if aS a 73 s = 3 then (a, false)
  else
    let a1 := aHeed a s (l.1 2)
    if aLast a1 s < l.1 7 then (aAppended a1 s (l.1 2) 0 (aLast a1 s + 1) (l.1 10), false)
    else if aBase a1 s ≤ l.1 7 ∧ ¬ aTermAt a1 s (l.1 7) = l.1 8 then (aAppended a1 s (l.1 2) 0 (aRunStart a1 s 300 (if l.1 7 = aBase a1 s then l.1 7 + 1 else l.1 7)) (l.1 10), false)
    else (a1, true)
theorem AFr_heed {a : AA} {s : Nat} {f : Int32} : AFr [73, 74, 78, 2, 29, 30] [] a (aHeed a s f) := AFr_w (AFr_t (AFr_t (AFr_t AFr_I AFr_I) AFr_I) AFr_drawAlarm) (by decide) (by decide)
theorem K_fits {F : Nat} {c : CS} {a : AA} {s ad : Nat} {l : AL} {H : List (Nat × Option AL)} {U : Nat → Int32} {N : Nat × Nat} (hF : 310 ≤ F) (h : RC c a (((ad, some l) :: H, U), N)) (hs : s < 7) (w : WLg a s) (hm : mdOK a 0) (hk : l.1 4 = 5) (hf : aInR (l.1 2) 0 6 = true ∨ aInR (l.1 2) 8 15 = true) (hH : H.length ≤ 4) : WP (k_Server_fits F c s ad) (fun r => r.1 = aB (fitA a s l).2 ∧ RC r.2 (fitA a s l).1 (((ad, some l) :: H, U), N)) := by
  have l0 := RC_hand h List.mem_cons_self
  have e2 : cI c 8 ad 2 0 = l.1 2 := l0.1 2 (by decide)
  have e5 : cI c 8 ad 5 0 = l.1 5 := l0.1 5 (by decide)
  have e7 : cI c 8 ad 7 0 = l.1 7 := LR_f l0 hk (by rw [lF5]; decide)
  have hH2 : ((ad, some l) :: H).length ≤ 5 := by rw [List.length_cons]; omega
  unfold k_Server_fits k_Server_fits_b0 k_Server_fits_b126 k_Server_fits_b128 fitA
  rw [K_r h (F := 53) (cl := 13) (f := 10) (by decide) hs, e2, e5, e7]
  refine WP_if c2_ge (fun q => ?_) (fun q => ?_)
  · rw [if_neg (i_nlt.mpr q)]
    refine WP_call (K_heeds h hs hm) (fun r hr => ?_)
    obtain ⟨r1, h1⟩ := hr
    rw [r1]
    by_cases q3 : aS a 73 s = 3
    · rw [if_pos q3] at h1 ⊢
      rw [decide_eq_true q3, if_neg (show ¬ xc0 .ne (aB (!true)) = true by decide), if_pos (show (0 : Int32) = 0 ∨ (0 : Int32) = 1 from Or.inl rfl)]
      exact WP_some ⟨rfl, h1⟩
    · rw [if_neg q3] at h1 ⊢
      rw [decide_eq_false q3, if_pos (show xc0 .ne (aB (!false)) = true by decide)]
      dsimp only
      have fr := @AFr_heed a s (l.1 2)
      have w1 : WLg (aHeed a s (l.1 2)) s := WLg_fr fr (by decide) (by decide) w
      generalize aHeed a s (l.1 2) = b at h1 w1
      have l1 := RC_hand h1 List.mem_cons_self
      have f2 : cI r.2 8 ad 2 0 = l.1 2 := l1.1 2 (by decide)
      have f8 : cI r.2 8 ad 8 0 = l.1 8 := LR_f l1 hk (by rw [lF5]; decide)
      have f10 : cI r.2 8 ad 10 0 = l.1 10 := LR_f l1 hk (by rw [lF5]; decide)
      have e56 : cI r.2 9 s 6 0 = aLast b s := K_r h1 (F := 56) (cl := 9) (f := 6) (by decide) hs
      have e55 : cI r.2 9 s 3 0 = aBase b s := K_r h1 (F := 55) (cl := 9) (f := 3) (by decide) hs
      rw [e56, e55, f2, f8, f10]
      refine WP_if c2_le (fun z => ?_) (fun z => ?_)
      · rw [if_neg (i_nlt.mpr z)]
        refine WP_if c2_lt (fun y => ?_) (fun y => ?_)
        · rw [if_pos (show (1 : Int32) = 0 ∨ (1 : Int32) = 1 from Or.inr rfl), if_neg (show ¬ (aBase b s ≤ l.1 7 ∧ ¬ aTermAt b s (l.1 7) = l.1 8) from fun u => (i_nle.mpr y) u.1)]
          exact WP_some ⟨rfl, h1⟩
        · have y := i_nlt.mp y
          refine WP_eq (K_termAt h1 hs w1) ?_
          refine WP_if c2_eq (fun u => ?_) (fun u => ?_)
          · rw [if_pos (show (1 : Int32) = 0 ∨ (1 : Int32) = 1 from Or.inr rfl), if_neg (show ¬ (aBase b s ≤ l.1 7 ∧ ¬ aTermAt b s (l.1 7) = l.1 8) from fun x => x.2 u)]
            exact WP_some ⟨rfl, h1⟩
          · rw [if_pos ⟨y, u⟩]
            refine WP_eq (K_runStart hF h1 hs w1 y z) ?_
            exact WP_call (K_appended (by omega) h1 hs hf hH2) (fun c3 h3 => by rw [if_pos (show (0 : Int32) = 0 ∨ (0 : Int32) = 1 from Or.inl rfl)]; exact WP_some ⟨rfl, h3⟩)
      · rw [if_pos (i_nle.mp z)]
        exact WP_call (K_appended (by omega) h1 hs hf hH2) (fun c3 h3 => by rw [if_pos (show (0 : Int32) = 0 ∨ (0 : Int32) = 1 from Or.inl rfl)]; exact WP_some ⟨rfl, h3⟩)
  · rw [if_pos (i_nle.mp q)]
    exact WP_call (K_appended (by omega) h hs hf hH2) (fun c3 h3 => by rw [if_pos (show (0 : Int32) = 0 ∨ (0 : Int32) = 1 from Or.inl rfl)]; exact WP_some ⟨rfl, h3⟩)
