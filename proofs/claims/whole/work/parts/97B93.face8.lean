/-! the face: events happen -/
def uS (u u' : AU) : Prop := u'.1.2 = u.1.2 ∧ u'.2 = u.2
theorem uS_r {u : AU} : uS u u := ⟨rfl, rfl⟩
theorem uS_t {u v w : AU} (h : uS u v) (h' : uS v w) : uS u w := ⟨h'.1.trans h.1, h'.2.trans h.2⟩
theorem uS_hp {a : AA} {u : AU} : uS u (hpU a u) := by
  unfold hpU
  split <;> exact ⟨rfl, rfl⟩
/-- a call of the face behind which another letter is the one that came last -/
def FWu (m : Option (Int32 × RS)) (r : AR) (u : AU) : Prop := WP m (fun p => ∃ u', uS u u' ∧ RM p.2 (aI r.1 0 0 (Int32.ofNat r.2.1)) u' ∧ (r.2.1 = 0 → p.1 = r.2.2))
/-- events until a time go through -/
def RunOK (F : Nat) (till : Int32) : Nat → AA → AU → Prop
  | 0, a, _ => EvOK a ∧ ∀ e, aNext a = some e → ¬ e.1 ≤ till
  | n + 1, a, u => EvOK a ∧ ∀ e, aNext a = some e → e.1 ≤ till → hpE F a u ∧ RunOK F till n (A_happen a e).1 (hpU a u)
theorem RunOK_ev {F : Nat} {till : Int32} {n : Nat} {a : AA} {u : AU} (h : RunOK F till n a u) : EvOK a := by
  cases n with
  | zero => exact h.1
  | succ n => exact h.1
theorem Nx_none {τ : RS} {a : AA} (h : Nx τ a) (e : aNext a = none) : τ.1 35 0 < 0 := by
  unfold Nx at h
  rw [e] at h
  dsimp only at h
  rw [h]
  decide
theorem Nx_some {τ : RS} {a : AA} {e : Int32 × Option Nat} (h : Nx τ a) (en : aNext a = some e) : 0 ≤ τ.1 35 0 ∧ τ.1 33 0 = e.1 := by
  unfold Nx at h
  rw [en] at h
  obtain ⟨t, b⟩ := e
  cases b with
  | none =>
    dsimp only at h
    obtain ⟨h1, k, x, r, k1, k2, _⟩ := h
    refine ⟨?_, h1⟩
    rw [k2, show (0 : Int32) = Int32.ofNat 0 from rfl, i_ltn (by omega) (by omega)]
    omega
  | some b =>
    dsimp only at h
    obtain ⟨h1, b1, b2, b3⟩ := h
    refine ⟨?_, h1⟩
    rw [b3]
    split
    · rw [show (0 : Int32) = Int32.ofNat 0 from rfl, i_ltn (by omega) (by omega)]
      omega
    · rw [show (0 : Int32) = Int32.ofNat 0 from rfl, i_ltn (by omega) (by omega)]
      omega
theorem aRun_stop {till : Int32} {n : Nat} {a : AA} (h : ∀ e, aNext a = some e → ¬ e.1 ≤ till) : aRun till n a = (a, 0) := by
  cases n with
  | zero => rfl
  | succ n =>
    unfold aRun
    cases en : aNext a with
    | none => rfl
    | some e =>
      dsimp only
      rw [if_neg (h e en)]
theorem aRun_go {till : Int32} {n : Nat} {a : AA} {e : Int32 × Option Nat} (en : aNext a = some e) (h : e.1 ≤ till) : aRun till (n + 1) a = ((aRun till n (A_happen a e).1).1, (aRun till n (A_happen a e).1).2 + 1) := by
  have : aRun till (n + 1) a = (match aNext a with
    | none => (a, 0)
    | some e =>
      if e.1 ≤ till then
        let r := aRun till n (A_happen a e).1
        (r.1, r.2 + 1)
      else (a, 0)) := rfl
  rw [this, en]
  dsimp only
  rw [if_pos h]
theorem M_runL {F : Nat} {till : Int32} (hF : 400 ≤ F) : ∀ (n n' : Nat) (τ : RS) (a : AA) (u : AU) (cnt : Int32), n + 1 ≤ n' → RM τ a u → Nx τ a → RunOK F till n a u → WP (m_run_b43 F n' τ till cnt) (fun p => ∃ u', uS u u' ∧ RM p.2 (aI (aRun till n a).1 1 0 till) u' ∧ p.1 = cnt + (aRun till n a).2) := by
  intro n
  induction n with
  | zero =>
    intro n' τ a u cnt hn h nx hR
    obtain ⟨m, rfl⟩ : ∃ m, n' = m + 1 := ⟨n' - 1, by omega⟩
    unfold m_run_b43
    have stop : WP (m_run_b74 F τ till cnt) (fun p => ∃ u', uS u u' ∧ RM p.2 (aI (aRun till 0 a).1 1 0 till) u' ∧ p.1 = cnt + (aRun till 0 a).2) := by
      unfold m_run_b74
      exact ⟨_, rfl, u, uS_r, RM_I h (by decide), (Int32.add_zero _).symm⟩
    refine WP_if c0_lt (fun _ => stop) (fun y => ?_)
    cases en : aNext a with
    | none => exact absurd (Nx_none nx en) y
    | some e =>
      obtain ⟨_, e33⟩ := Nx_some nx en
      rw [e33]
      exact WP_if c2_gt (fun _ => stop) (fun y2 => absurd (Int32.not_lt.mp y2) (hR.2 e en))
  | succ n ih =>
    intro n' τ a u cnt hn h nx hR
    obtain ⟨m, rfl⟩ : ∃ m, n' = m + 1 := ⟨n' - 1, by omega⟩
    unfold m_run_b43
    have stop : (∀ e, aNext a = some e → ¬ e.1 ≤ till) → WP (m_run_b74 F τ till cnt) (fun p => ∃ u', uS u u' ∧ RM p.2 (aI (aRun till (n + 1) a).1 1 0 till) u' ∧ p.1 = cnt + (aRun till (n + 1) a).2) := by
      intro hs
      rw [aRun_stop hs]
      unfold m_run_b74
      exact ⟨_, rfl, u, uS_r, RM_I h (by decide), (Int32.add_zero _).symm⟩
    cases en : aNext a with
    | none =>
      refine WP_if c0_lt (fun _ => stop (fun e he => ?_)) (fun y => absurd (Nx_none nx en) y)
      rw [en] at he
      exact absurd he (by simp)
    | some e =>
      obtain ⟨e35, e33⟩ := Nx_some nx en
      refine WP_if c0_lt (fun y => absurd e35 (Int32.not_le.mpr y)) (fun _ => ?_)
      rw [e33]
      refine WP_if c2_gt (fun y => stop (fun e' he => ?_)) (fun y => ?_)
      · rw [en] at he
        rw [← Option.some.inj he]
        exact Int32.not_le.mpr y
      · have y := Int32.not_lt.mp y
        obtain ⟨hE, hn2⟩ := hR.2 e en y
        rw [aRun_go en y]
        refine WP_call (M_happen hF h hR.1 en nx hE) (fun p5 h5 => ?_)
        refine WP_call (M_findNext (by omega) h5.2 (RunOK_ev hn2)) (fun p18 h18 => ?_)
        refine WP_mono (ih m p18 _ _ (cnt + 1) (by omega) h18.1 h18.2 hn2) ?_
        rintro q ⟨u', u1, u2, u3⟩
        refine ⟨u', uS_t uS_hp u1, u2, u3.trans ?_⟩
        rw [Int32.add_assoc, Int32.add_comm 1]
theorem F_run {F : Nat} {σ : RS} {a : AA} {u : AU} {n : Int32} (hF : 1000002 ≤ F) (h : RM σ a u) (hR : aInR n 1 1000 = true → RunOK F (aNow a + n) 1000000 (aI a 0 0 0) u) : FWu (m_run F σ n) (A_runFace (aI a 0 0 0) n) u := by
  unfold A_runFace m_run m_run_b0 m_run_b18
  by_cases q1 : aInR n 1 1000 = true
  · rw [q1]
    simp only [Bool.not_true, Bool.false_eq_true, if_false]
    refine WP_in (lo' := 1) (hi' := 1000) (by decide) (by decide) (fun _ => ?_) (fun y => by rw [q1] at y; exact absurd y (by decide))
    refine WP_if c0_eq (fun y => absurd (show (1 : Int32) = 0 from y) (by decide)) (fun _ => ?_)
    refine WP_th h (fun τ hτ e0 => ?_)
    rw [e0]
    refine WP_if c0_le (fun _ => ?_) (fun y => absurd (by decide) y)
    have hR := hR q1
    have ef := @EFr_run (aNow a + n) 1000000 (aI a 0 0 0)
    have en : aNow (aI a 0 0 0) = aNow a := rfl
    have e1 : τ.1 1 0 = aNow a := (RM_0 hτ (by decide)).trans en
    have z0 : aS (aI a 0 0 0) 0 0 = 0 := aS_00
    rw [en, e1]
    generalize aI a 0 0 0 = b at hτ hR ef z0
    refine WP_call (M_findNext (by omega) hτ (RunOK_ev hR)) (fun p32 h32 => ?_)
    refine WP_mono (M_runL (by omega) 1000000 F p32 b u 0 (by omega) h32.1 h32.2 hR) ?_
    rintro q ⟨u', u1, u2, u3⟩
    refine ⟨u', u1, ?_, fun _ => u3.trans (Int32.zero_add _)⟩
    show RM q.2 (aI (aI (aRun (aNow a + n) 1000000 b).1 1 0 (aNow a + n)) 0 0 0) u'
    have ez : aS (aI (aRun (aNow a + n) 1000000 b).1 1 0 (aNow a + n)) 0 0 = 0 := by
      rw [aS_If (by decide), ef.1 0 (by decide)]
      exact z0
    rw [aI_same ez]
    exact u2
  · have q1 := b_false q1
    rw [q1]
    simp only [Bool.not_false, if_true]
    refine WP_in (lo' := 1) (hi' := 1000) (by decide) (by decide) (fun y => by rw [q1] at y; exact absurd y (by decide)) (fun _ => ?_)
    refine WP_if c0_eq (fun _ => ?_) (fun y => absurd rfl y)
    refine WP_th h (fun τ hτ e0 => ?_)
    rw [e0]
    refine WP_if c0_le (fun y => absurd y (by decide)) (fun _ => WP_some ⟨u, uS_r, ?_, fun y => absurd y (show ¬ (1 : Nat) = 0 by decide)⟩)
    show RM τ (aI (aI a 0 0 0) 0 0 1) u
    rw [aI_II]
    exact hτ
theorem F_step {F : Nat} {σ : RS} {a : AA} {u : AU} (hF : 400 ≤ F) (h : RM σ a u) (he : EvOK (aI a 0 0 0)) (hE : hpE F (aI a 0 0 0) u) : FWu (m_step F σ) (A_step (aI a 0 0 0)) u := by
  unfold A_step m_step m_step_b0 m_step_b24
  refine WP_th h (fun τ hτ e0 => ?_)
  have z0 : aS (aI a 0 0 0) 0 0 = 0 := aS_00
  generalize aI a 0 0 0 = b at hτ he hE z0
  refine WP_call (M_findNext (by omega) hτ he) (fun p3 h3 => ?_)
  cases en : aNext b with
  | none =>
    dsimp only
    refine WP_if c0_ge (fun y => absurd (Nx_none h3.2 en) (Int32.not_lt.mpr y)) (fun _ => WP_some ⟨u, uS_r, ?_, fun _ => rfl⟩)
    show RM p3 (aI b 0 0 0) u
    rw [aI_same z0]
    exact h3.1
  | some e =>
    dsimp only
    refine WP_if c0_ge (fun _ => ?_) (fun y => absurd (Nx_some h3.2 en).1 y)
    refine WP_call (M_happen hF h3.1 he en h3.2 hE) (fun p6 h6 => WP_some ⟨hpU b u, uS_hp, ?_, fun _ => h6.1⟩)
    show RM p6.2 (aI (A_happen b e).1 0 0 0) (hpU b u)
    rw [aI_same (by rw [(EFr_happen (e := e)).1 0 (by decide)]; exact z0)]
    exact h6.2
theorem F_giveUp {σ : RS} {a : AA} {u : AU} {c : Int32} (h : RM σ a u) : FW (m_giveUp σ c) (A_giveUp (aI a 0 0 0) c) u := by
  unfold A_giveUp m_giveUp m_giveUp_b0 m_giveUp_b18 m_giveUp_b37
  by_cases q1 : aInR c 0 7 = true
  · rw [q1]
    simp only [Bool.not_true, Bool.false_eq_true, if_false]
    refine WP_in (lo' := 0) (hi' := 7) (by decide) (by decide) (fun _ => ?_) (fun y => by rw [q1] at y; exact absurd y (by decide))
    refine WP_if c0_eq (fun y => absurd (show (1 : Int32) = 0 from y) (by decide)) (fun _ => ?_)
    refine WP_th h (fun τ hτ e0 => ?_)
    rw [e0]
    refine WP_if c0_gt (fun y => absurd y (by decide)) (fun _ => ?_)
    obtain ⟨p, e1, hp⟩ := in_nat2 (hi := 7) (by omega) q1
    rw [e1, i_cl (by omega)]
    have z0 : aS (aI a 0 0 0) 0 0 = 0 := aS_00
    generalize aI a 0 0 0 = b at hτ z0
    refine WP_r8 hτ (by decide) (by omega) ?_
    refine WP_if c0_ne (fun y => ?_) (fun y => ?_)
    · rw [if_neg y]
      refine FW_ok (by rw [EFr_resign.1 0 (by decide)]; exact z0) ?_
      refine WP_call (M_resign hτ (by omega) y) (fun p8 h8 => ?_)
      rw [if_pos (by decide)]
      exact WP_some ⟨h8, rfl⟩
    · rw [if_pos (Classical.not_not.mp y)]
      refine FW_ok z0 ?_
      rw [if_pos (by decide)]
      exact WP_some ⟨hτ, rfl⟩
  · have q1 := b_false q1
    rw [q1]
    simp only [Bool.not_false, if_true]
    refine FW_no (by decide) (WP_in (lo' := 0) (hi' := 7) (by decide) (by decide) (fun y => by rw [q1] at y; exact absurd y (by decide)) (fun _ => ?_))
    refine WP_if c0_eq (fun _ => ?_) (fun y => absurd rfl y)
    refine WP_th h (fun τ hτ e0 => ?_)
    rw [e0]
    refine WP_if c0_gt (fun _ => ?_) (fun y => absurd (by decide) y)
    rw [if_pos (by decide)]
    exact WP_some hτ
