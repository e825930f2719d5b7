/-! events until a time; one event -/
def okRun (F : Nat) (till : Int32) (U : Nat → Int32) (N : Nat × Nat) : Nat → AA → Prop
  | 0, _ => True
  | n + 1, a => okE F a U N ∧ ∀ e, aNext a = some e → e.1 ≤ till → okRun F till U N n (A_happen a e).1
theorem hap_ne {F : Nat} {a : AA} {U : Nat → Int32} {N : Nat × Nat} {e : EE} (ok : okE F a U N) (h : aNext a = some e) : ¬ (A_happen a e).2 = -1 := by
  obtain ⟨okb, okl⟩ := ok
  have nb : ∀ b : Nat, b < 23 → ¬ Int32.ofNat b = -1 := by
    intro b hb z
    have z2 := congrArg Int32.toInt z
    rw [Int32.toInt_ofNat_of_lt (by omega), show (-1 : Int32).toInt = -1 by decide] at z2
    omega
  have bell : ∀ (t : Int32) (b : Nat), b < 23 → ¬ (A_happen a (t, some b)).2 = -1 := by
    intro t b hb
    rw [hap_b]
    split
    · exact nb b hb
    · split
      · exact nb b hb
      · exact nb b hb
  have lett : ∀ (x : AP) (r : List AP), aWay a = x :: r → ¬ (A_happen a (x.1, none)).2 = -1 := by
    intro x r hw
    have hend := (okl x r hw).2.2.1
    have n1 : ¬ x.2.2.1 3 = -1 := by
      intro z
      rw [z] at hend
      exact absurd hend (by decide)
    rw [hap_l hw]
    split
    · exact n1
    · split
      · exact n1
      · exact n1
  unfold aNext at h
  cases hw : aWay a with
  | nil =>
    rw [hw] at h
    cases hb : aBell a 23 with
    | none =>
      rw [hb] at h
      exact absurd h (by simp)
    | some b =>
      rw [hb] at h
      have h : some ((aBt a b, some b) : EE) = some e := h
      rw [← Option.some.inj h]
      exact bell _ b (aBell_lt hb).1
  | cons x r =>
    rw [hw] at h
    cases hb : aBell a 23 with
    | none =>
      rw [hb] at h
      have h : some ((x.1, none) : EE) = some e := h
      rw [← Option.some.inj h]
      exact lett x r hw
    | some b =>
      rw [hb] at h
      have h : (if x.1 < aBt a b ∨ (x.1 = aBt a b ∧ x.2.1 < aBn a b) then some ((x.1, none) : EE) else some (aBt a b, some b)) = some e := h
      by_cases q : x.1 < aBt a b ∨ (x.1 = aBt a b ∧ x.2.1 < aBn a b)
      · rw [if_pos q] at h
        rw [← Option.some.inj h]
        exact lett x r hw
      · rw [if_neg q] at h
        rw [← Option.some.inj h]
        exact bell _ b (aBell_lt hb).1
theorem K_runL {F : Nat} {till : Int32} {U : Nat → Int32} {N : Nat × Nat} (hF : 400 ≤ F) (h0 : 0 ≤ till.toInt) (h1 : till.toInt < 1073741824) : ∀ (n f : Nat) (c : CS) (a : AA) (cnt : Nat), n + 1 ≤ f → RC c a (([], U), N) → okRun F till U N n a → cnt + n = 1000000 → WP (k_Face_run_b32 F f c 0 till (Int32.ofNat cnt)) (fun p => RC p.2 (aI (aRun till n a).1 1 0 till) (([], U), N) ∧ p.1 = Int32.ofNat cnt + (aRun till n a).2) := by
  intro n
  induction n with
  | zero =>
    intro f c a cnt hf h ok hc
    cases f with
    | zero => omega
    | succ f =>
      unfold k_Face_run_b32 k_Face_run_b53
      dsimp only
      rw [if_pos (c2_ge.mpr (by
        rw [Int32.le_iff_toInt_le, Int32.toInt_ofNat_of_lt (by omega), show (1000000 : Int32).toInt = 1000000 by decide]
        omega))]
      refine WP_b (WP_some ⟨RC_now h h0 h1, ?_⟩)
      show Int32.ofNat cnt = Int32.ofNat cnt + 0
      rw [Int32.add_zero]
  | succ n ih =>
    intro f c a cnt hf h ok hc
    cases f with
    | zero => omega
    | succ f =>
      obtain ⟨okE', okR⟩ := ok
      unfold k_Face_run_b32 k_Face_run_b53
      dsimp only
      rw [if_neg (fun z => by
        have z := c2_ge.mp z
        rw [Int32.le_iff_toInt_le, Int32.toInt_ofNat_of_lt (by omega), show (1000000 : Int32).toInt = 1000000 by decide] at z
        omega)]
      refine WP_call (K_happen (till := till) hF h okE') (fun p hp => ?_)
      have stop : ∀ c', p.1 = -1 → RC p.2 a (([], U), N) → aRun till (n + 1) a = (a, 0) → c' = p.2 → WP (if xc2 .eq p.1 (-1) = true then (some (csI p.2 14 0 0 0 till)).bind fun σ1 => some (Int32.ofNat cnt, σ1) else k_Face_run_b32 F f p.2 0 till (Int32.ofNat cnt + 1)) (fun p => RC p.2 (aI (aRun till (n + 1) a).1 1 0 till) (([], U), N) ∧ p.1 = Int32.ofNat cnt + (aRun till (n + 1) a).2) := by
        intro c' e1 hr e2 _
        rw [if_pos (c2_eq.mpr e1), e2]
        refine WP_b (WP_some ⟨RC_now hr h0 h1, ?_⟩)
        show Int32.ofNat cnt = Int32.ofNat cnt + 0
        rw [Int32.add_zero]
      cases he : aNext a with
      | none =>
        rw [he] at hp
        have e2 : aRun till (n + 1) a = (a, 0) := by
          unfold aRun
          rw [he]
        exact stop p.2 hp.1 hp.2 e2 rfl
      | some e =>
        rw [he] at hp
        have hp : hpQ a till (([], U), N) e p := hp
        unfold hpQ at hp
        by_cases q : e.1 ≤ till
        · rw [if_pos q] at hp
          have e2 : aRun till (n + 1) a = ((aRun till n (A_happen a e).1).1, (aRun till n (A_happen a e).1).2 + 1) := by
            rw [aRun, he]
            exact if_pos q
          rw [if_neg (fun z => hap_ne okE' he (hp.1.symm.trans (c2_eq.mp z))), e2, i_s]
          refine WP_mono (ih f p.2 _ (cnt + 1) (by omega) hp.2 (okR e he q) (by omega)) (fun p' h' => ⟨h'.1, ?_⟩)
          rw [h'.2, ← i_s, Int32.add_assoc]
          show Int32.ofNat cnt + (1 + _) = Int32.ofNat cnt + (_ + 1)
          rw [Int32.add_comm 1]
        · rw [if_neg q] at hp
          have e2 : aRun till (n + 1) a = (a, 0) := by
            rw [aRun, he]
            exact if_neg q
          exact stop p.2 hp.1 hp.2 e2 rfl
theorem K_run {F : Nat} {c : CS} {a : AA} {n : Int32} {U : Nat → Int32} {N : Nat × Nat} (hF : 1000002 ≤ F) (h : RC c a (([], U), N)) (hn : aInR n 1 1000 = true) (ht : (aNow a).toInt + 1000 < 1073741824) (ok : okRun F (aNow a + n) U N 1000000 a) : WP (k_Face_run F c 0 n) (fun p => RC p.2 (A_runFace a n).1 (([], U), N) ∧ p.1 = (A_runFace a n).2.2) := by
  have n0 := (h.2.2.2.2.2.2.2.2.2.2.2.2.2.2.2.2.2.2.2.2.2.2).1
  have eA : A_runFace a n = (aI (aRun (aNow a + n) 1000000 a).1 1 0 (aNow a + n), 0, (aRun (aNow a + n) 1000000 a).2) := by
    unfold A_runFace
    rw [hn]
    rfl
  unfold aInR at hn
  rw [Bool.and_eq_true_iff, decide_eq_true_eq, decide_eq_true_eq, Int32.le_iff_toInt_le, Int32.le_iff_toInt_le, show (1 : Int32).toInt = 1 by decide, show (1000 : Int32).toInt = 1000 by decide] at hn
  have e1 : (aNow a + n).toInt = (aNow a).toInt + n.toInt := i_addI (by omega) (by omega)
  unfold k_Face_run k_Face_run_b0
  rw [if_neg (fun z => by
    have z := c2_lt.mp z
    rw [Int32.lt_iff_toInt_lt, show (1 : Int32).toInt = 1 by decide] at z
    omega), if_pos (c2_le.mpr (by
    rw [Int32.le_iff_toInt_le, show (1000 : Int32).toInt = 1000 by decide]
    omega)), K_r h (F := 1) (cl := 14) (f := 0) (by decide) (by decide), show aS a 1 0 = aNow a from rfl, eA]
  refine WP_mono (K_runL (by omega) (by omega) (by omega) 1000000 F c a 0 (by omega) h ok (by omega)) (fun p hp => ⟨hp.1, ?_⟩)
  rw [hp.2]
  exact Int32.zero_add _
theorem K_step {F : Nat} {c : CS} {a : AA} {U : Nat → Int32} {N : Nat × Nat} (hF : 400 ≤ F) (h : RC c a (([], U), N)) (ok : okE F a U N) : WP (k_Face_step F c 0) (fun p => RC p.2 (A_step a).1 (([], U), N) ∧ p.1 = (A_step a).2.2) := by
  unfold k_Face_step k_Face_step_b0 A_step
  refine WP_call (K_happen hF h ok) (fun p hp => WP_some ?_)
  cases he : aNext a with
  | none =>
    rw [he] at hp
    exact ⟨hp.2, hp.1⟩
  | some e =>
    rw [he] at hp
    have hp : hpQ a 2147483647 (([], U), N) e p := hp
    unfold hpQ at hp
    have q : e.1 ≤ 2147483647 := by
      rw [Int32.le_iff_toInt_le, show (2147483647 : Int32).toInt = 2147483647 by decide]
      have := Int32.toInt_lt e.1
      omega
    rw [if_pos q] at hp
    exact ⟨hp.2, hp.1⟩
