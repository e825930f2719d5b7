/-! an event happens -/
def hp1 (a : AA) (t : Int32) : AA := aAdd (aI a 1 0 t) 3 0 1
/-- the first letter is taken off the way -/
theorem RM_off1 {F : Nat} {σ : RS} {a : AA} {u : AU} {k : Nat} {x : AP} {r : List AP} {β : Type} {g : RS → Option β} {Q : β → Prop} (hF : 400 ≤ F) (h : RM σ a u) (ew : aWay a = x :: r) (ev : (aWay a).Pairwise (fun x y => x.1 < y.1 ∨ (x.1 = y.1 ∧ x.2.1 < y.2.1))) (hk : k < 128) (h17 : σ.1 17 k = 1) (h18 : σ.1 18 k = x.1) (h19 : σ.1 19 k = x.2.1)
    (go : ∀ τ, RM τ (aWayS a r) ((some x.2.2, u.1.2), u.2) → WP (g τ) Q) : WP ((m_copyLetter F σ (Int32.ofNat k) 353).bind fun p23 => (rst p23 17 (Int32.ofNat k) 0).bind fun σ25 => (some (setI σ25 20 0 (σ25.1 20 0 - 1))).bind g) Q := by
  obtain ⟨z1, z2, ws, z3, z4, z5, z6⟩ := h.2.1
  rw [ew] at ev
  have key : ∃ ws', ws = (k, x) :: ws' ∧ ws'.map Prod.snd = r := by
    cases ws with
    | nil =>
      rw [ew] at z3
      exact absurd z3 (by simp)
    | cons p ws' =>
      rw [ew, List.map_cons] at z3
      obtain ⟨e1, e2⟩ := List.cons.inj z3
      have hmem : k ∈ (p :: ws').map Prod.fst := by
        have := z6 k hk
        by_cases q : k ∈ (p :: ws').map Prod.fst
        · exact q
        · rw [if_neg q, h17] at this
          exact absurd this (by decide)
      rw [List.mem_map] at hmem
      obtain ⟨p', hp', ek⟩ := hmem
      rcases List.mem_cons.mp hp' with z | z
      · refine ⟨ws', ?_, e2⟩
        rw [z] at ek
        rw [← ek, ← e1]
      · exfalso
        obtain ⟨y1, y2, y3, _⟩ := z5 p' hp'
        have hr : p'.2 ∈ r := by
          rw [← e2]
          exact List.mem_map.mpr ⟨p', z, rfl⟩
        have := (List.pairwise_cons.mp ev).1 p'.2 hr
        rw [ek, h18] at y2
        rw [ek, h19] at y3
        rw [← y2, ← y3] at this
        simp only [Int32.lt_iff_toInt_lt] at this
        omega
  obtain ⟨ws', rfl, e2⟩ := key
  obtain ⟨_, _, _, hlt⟩ := z5 (k, x) List.mem_cons_self
  refine WP_call (M_copyLetter (a := k) (b := 353) hF (by omega) (by omega) (by omega) hlt) (fun p hp => ?_)
  refine WP_st rfl 128 (by decide +kernel) hk ?_
  have hS := hp.1
  have hFs := SLf_Fr hS
  have e : ∀ f, 17 ≤ f → f ≤ 20 → ∀ i, p.1 f i = σ.1 f i := fun f q1 q2 i => hS.1 f i (by unfold sOf; omega)
  have e20 : (setI p 17 k 0).1 20 0 = Int32.ofNat (aWay a).length := by
    rw [setI_f (by decide), e 20 (by omega) (by omega), z1]
  rw [e20]
  refine go _ ?_
  have hF2 : Fr [17, 20] [] p (setI (setI p 17 k 0) 20 0 (Int32.ofNat (aWay a).length - 1)) := Fr_w (Fr_t Fr_I Fr_I) (by simp) (by simp)
  have hway : RWay (aAk a) (setI (setI p 17 k 0) 20 0 (Int32.ofNat (aWay a).length - 1)) r := by
    rw [List.map_cons, List.nodup_cons] at z4
    refine ⟨?_, ?_, ws', e2, z4.2, fun q hq => ?_, fun j hj => ?_⟩
    · rw [setI_e, ew, List.length_cons, i_pre (by omega), Nat.add_sub_cancel]
    · rw [ew, List.length_cons] at z2
      omega
    · obtain ⟨y1, y2, y3, y4⟩ := z5 q (List.mem_cons_of_mem _ hq)
      refine ⟨y1, ?_, ?_, RLt_fr hF2 (by decide) (RLt_o hS (by omega) y4)⟩
      · rw [setI_f (by decide), setI_f (by decide), e 18 (by omega) (by omega)]
        exact y2
      · rw [setI_f (by decide), setI_f (by decide), e 19 (by omega) (by omega)]
        exact y3
    · rw [setI_f (by decide)]
      by_cases q : j = k
      · rw [q, setI_e, if_neg z4.1]
      · rw [setI_i q, e 17 (by omega) (by omega), z6 j hj, List.map_cons]
        by_cases q2 : j ∈ ws'.map Prod.fst
        · rw [if_pos q2, if_pos (List.mem_cons_of_mem _ q2)]
        · rw [if_neg q2, if_neg]
          intro z
          rcases List.mem_cons.mp z with z | z
          · exact q z
          · exact q2 z
  have hF : Fr ([6, 7, 8, 9, 10, 11, 12, 13, 14, 15] ++ [17, 20]) ([16] ++ []) σ (setI (setI p 17 k 0) 20 0 (Int32.ofNat (aWay a).length - 1)) := Fr_t (Fr_w hFs (by simp) (by simp)) hF2
  have hwt : ∀ s, s < 7 → RWt (aAk a) (setI (setI p 17 k 0) 20 0 (Int32.ofNat (aWay a).length - 1)) s (aWt a s) := by
    intro s hs
    obtain ⟨y1, y2, y3⟩ := h.2.2.1 s hs
    refine RWt_fr hF2 (by decide) ⟨hFs.1 85 (by decide) ▸ y1, y2, fun i hi => RLt_o hS (by omega) (y3 i hi)⟩
  exact ⟨RSc_fr hF (by decide) h.1, hway, hwt, fun l hl => by rw [← Option.some.inj hl]; exact RLt_fr hF2 (by decide) hp.2, fun s hs => RLog_fr hF (by decide) (h.2.2.2.2.1 s hs), fun s hs => RDk_fr hF (by decide) (h.2.2.2.2.2.1 s hs), fun s hs => RSl_fr hF (by decide) (h.2.2.2.2.2.2.1 s hs), fun s hs hu => RCh_fr hF (by decide) (h.2.2.2.2.2.2.2.1 s hs hu), fun s hs hu => RAt_fr hF (by decide) (h.2.2.2.2.2.2.2.2.1 s hs hu), fun s hs => RMc_fr hF (by decide) (h.2.2.2.2.2.2.2.2.2.1 s hs), fun s hs => RSh_fr hF (by decide) (h.2.2.2.2.2.2.2.2.2.2.1 s hs), fun s hs => RPc_fr hF (by decide) (h.2.2.2.2.2.2.2.2.2.2.2.1 s hs), fun s hs => RRq_fr hF (by decide) (h.2.2.2.2.2.2.2.2.2.2.2.2.1 s hs), RAk_fr hF (by decide) h.2.2.2.2.2.2.2.2.2.2.2.2.2.1, fun s hs => RWn_fr hF (by decide) (h.2.2.2.2.2.2.2.2.2.2.2.2.2.2.1 s hs), RTp_fr hF (by decide) h.2.2.2.2.2.2.2.2.2.2.2.2.2.2.2.1, RRe_fr hF (by decide) h.2.2.2.2.2.2.2.2.2.2.2.2.2.2.2.2.1, fun s hs => RDn_fr hF (by decide) (h.2.2.2.2.2.2.2.2.2.2.2.2.2.2.2.2.2.1 s hs), RSum_fr hF (by decide) h.2.2.2.2.2.2.2.2.2.2.2.2.2.2.2.2.2.2.1, h.2.2.2.2.2.2.2.2.2.2.2.2.2.2.2.2.2.2.2.1, h.2.2.2.2.2.2.2.2.2.2.2.2.2.2.2.2.2.2.2.2.1, h.2.2.2.2.2.2.2.2.2.2.2.2.2.2.2.2.2.2.2.2.2.1, h.2.2.2.2.2.2.2.2.2.2.2.2.2.2.2.2.2.2.2.2.2.2.1, h.2.2.2.2.2.2.2.2.2.2.2.2.2.2.2.2.2.2.2.2.2.2.2⟩
/-- what a letter's coming asks for -/
def hpL (F : Nat) (a2 : AA) (u : AU) (l : AL) : Prop := ∀ τ, RM τ a2 u → A_parted a2 (l.1 2) (l.1 3) = false →
  (l.1 3 < 7 → ¬ aS a2 52 (l.1 3).toNatClampNeg = 0 → (l.1 4 = 10 → WP (m_asked F τ (l.1 3) (l.1 2)) (fun τ => RM τ (A_asked a2 (l.1 3).toNatClampNeg l) u)) ∧ (¬ l.1 4 = 10 → WP (m_came F τ (l.1 3) (l.1 2)) (fun τ => RM τ (A_came a2 (l.1 3).toNatClampNeg l) u))) ∧
  (¬ l.1 3 < 7 → WP (m_reply F τ (l.1 3 - 8)) (fun τ => RM τ (A_hear a2 ((l.1 3).toNatClampNeg - 8) l) u))
/-- what an event asks for -/
def hpE (F : Nat) (a : AA) (u : AU) : Prop := match aNext a with
  | none => True
  | some (t, some b) => b ≠ 7 ∧ ∀ τ,
    (16 ≤ b → RM τ (aI (hp1 a t) 31 (b - 16) (-1)) u → WP (m_sync F τ (Int32.ofNat (b - 16))) (fun τ => RM τ (A_sync (aI (hp1 a t) 31 (b - 16) (-1)) (b - 16)) u)) ∧
    (b < 7 → RM τ (aI (hp1 a t) 29 b (-1)) u → WP (m_ring F τ (Int32.ofNat b)) (fun τ => RM τ (A_ring (aI (hp1 a t) 29 b (-1)) b) u)) ∧
    (8 ≤ b → b < 16 → RM τ (aI (hp1 a t) 29 b (-1)) u → WP (m_ringClient F τ (Int32.ofNat (b - 8))) (fun τ => RM τ (A_ringClient (aI (hp1 a t) 29 b (-1)) (b - 8)) u))
  | some (t, none) => ∀ x r, aWay a = x :: r → hpL F (aWayS (hp1 a t) r) ((some x.2.2, u.1.2), u.2) x.2.2
/-- the letter that came -/
def hpU (a : AA) (u : AU) : AU := match aNext a, aWay a with
  | some (_, none), x :: _ => ((some x.2.2, u.1.2), u.2)
  | _, _ => u
theorem M_happen {F : Nat} {σ : RS} {a : AA} {u : AU} {e : Int32 × Option Nat} (hF : 400 ≤ F) (h : RM σ a u) (he : EvOK a) (en : aNext a = some e) (nx : Nx σ a) (hp : hpE F a u) : WP (m_happen F σ) (fun p => p.1 = (A_happen a e).2 ∧ RM p.2 (A_happen a e).1 (hpU a u)) := by
  unfold Nx at nx
  unfold hpE at hp
  rw [en] at nx hp
  obtain ⟨t, b⟩ := e
  have pre : ∀ {g : RS → Option (Int32 × RS)} {Q : Int32 × RS → Prop}, σ.1 33 0 = t → (∀ τ, RM τ (hp1 a t) u → τ.1 35 0 = σ.1 35 0 → (∀ f, f ≠ 1 → f ≠ 3 → ∀ i, τ.1 f i = σ.1 f i) → WP (g τ) Q) → WP ((some (setI σ 1 0 (σ.1 33 0))).bind fun σ17 => (some (setI σ17 3 0 (σ17.1 3 0 + 1))).bind g) Q := by
    intro g Q e33 k
    rw [e33]
    have h1 : RM (setI σ 1 0 t) (aI a 1 0 t) u := RM_I h (by decide)
    show WP ((some (setI (setI σ 1 0 t) 3 0 ((setI σ 1 0 t).1 3 0 + 1))).bind g) Q
    have h2 : RM (setI (setI σ 1 0 t) 3 0 ((setI σ 1 0 t).1 3 0 + 1)) (hp1 a t) u := by
      rw [show (setI σ 1 0 t).1 3 0 = aS (aI a 1 0 t) 3 0 from RM_0 h1 (by decide)]
      exact RM_I h1 (by decide)
    refine k _ h2 ?_ (fun f f1 f3 i => ?_)
    · rw [setI_f (by decide), setI_f (by decide)]
    · rw [setI_f f3, setI_f f1]
  unfold m_happen m_happen_b0
  cases b with
  | some b =>
    dsimp only at nx hp
    obtain ⟨n1, n2, n3, n4⟩ := nx
    obtain ⟨p1, p2⟩ := hp
    have eu : hpU a u = u := by
      unfold hpU
      rw [en]
    rw [eu]
    refine pre n1 (fun τ h1 e35 _ => ?_)
    rw [n4]
    by_cases q16 : b < 16
    · rw [if_pos q16]
      refine WP_if (p := True) (by rw [c2_lt, show (300 : Int32) = Int32.ofNat 300 from rfl, Int32.lt_iff_toInt_lt, Int32.toInt_ofNat_of_lt (by omega), Int32.toInt_ofNat_of_lt (by omega)]; exact ⟨fun _ => trivial, fun _ => by omega⟩) (fun _ => ?_) (fun y => absurd trivial y)
      refine WP_if (p := False) (by rw [c2_lt, show (200 : Int32) = Int32.ofNat 200 from rfl, Int32.lt_iff_toInt_lt, Int32.toInt_ofNat_of_lt (by omega), Int32.toInt_ofNat_of_lt (by omega)]; exact ⟨fun y => by omega, fun y => y.elim⟩) (fun y => y.elim) (fun _ => ?_)
      rw [show Int32.ofNat (200 + b) - 200 = Int32.ofNat b by rw [show (200 : Int32) = Int32.ofNat 200 from rfl, i_subn (by omega), Nat.add_sub_cancel_left]]
      refine WP_st rfl 16 (by decide +kernel) q16 ?_
      have h2 : RM (setI τ 29 b (-1)) (aI (hp1 a t) 29 b (-1)) u := RM_I h1 (by decide)
      obtain ⟨_, r2, r3⟩ := p2 (setI τ 29 b (-1))
      unfold m_happen_b105
      rw [show Int32.ofNat (200 + b) - 200 = Int32.ofNat b by rw [show (200 : Int32) = Int32.ofNat 200 from rfl, i_subn (by omega), Nat.add_sub_cancel_left]]
      refine WP_if (p := 8 ≤ b) (by rw [show (208 : Int32) = Int32.ofNat 208 from rfl, i_gei (by omega) (by omega)]; omega) (fun q8 => ?_) (fun q8 => ?_)
      · rw [show Int32.ofNat (200 + b) - 208 = Int32.ofNat (b - 8) by rw [show (208 : Int32) = Int32.ofNat 208 from rfl, i_subn (by omega), show 200 + b - 208 = b - 8 by omega]]
        refine WP_call (r3 q8 q16 h2) (fun p hp => WP_some ?_)
        have eh : A_happen a (t, some b) = (A_ringClient (aI (hp1 a t) 29 b (-1)) (b - 8), Int32.ofNat b) := by
          unfold A_happen
          dsimp only
          rw [if_neg (by omega), if_neg (by omega)]
          rfl
        rw [eh]
        exact ⟨rfl, hp⟩
      · refine WP_call (r2 (by omega) h2) (fun p hp => WP_some ?_)
        have eh : A_happen a (t, some b) = (A_ring (aI (hp1 a t) 29 b (-1)) b, Int32.ofNat b) := by
          unfold A_happen
          dsimp only
          rw [if_neg (by omega), if_pos (by omega)]
          rfl
        rw [eh]
        exact ⟨rfl, hp⟩
    · rw [if_neg q16]
      refine WP_if (p := False) (by rw [c2_lt, show (300 : Int32) = Int32.ofNat 300 from rfl, Int32.lt_iff_toInt_lt, Int32.toInt_ofNat_of_lt (by omega), Int32.toInt_ofNat_of_lt (by omega)]; exact ⟨fun y => by omega, fun y => y.elim⟩) (fun y => y.elim) (fun _ => ?_)
      rw [show Int32.ofNat (300 + (b - 16)) - 300 = Int32.ofNat (b - 16) by rw [show (300 : Int32) = Int32.ofNat 300 from rfl, i_subn (by omega), Nat.add_sub_cancel_left]]
      refine WP_st rfl 7 (by decide +kernel) (by omega) ?_
      have h2 : RM (setI τ 31 (b - 16) (-1)) (aI (hp1 a t) 31 (b - 16) (-1)) u := RM_I h1 (by decide)
      obtain ⟨r1, _, _⟩ := p2 (setI τ 31 (b - 16) (-1))
      refine WP_call (r1 (by omega) h2) (fun p hp => WP_some ?_)
      have eh : A_happen a (t, some b) = (A_sync (aI (hp1 a t) 31 (b - 16) (-1)) (b - 16), Int32.ofNat b) := by
        unfold A_happen
        dsimp only
        rw [if_pos (by omega)]
        rfl
      rw [eh]
      refine ⟨?_, hp⟩
      show (16 : Int32) + Int32.ofNat (300 + (b - 16)) - 300 = Int32.ofNat b
      rw [show (16 : Int32) = Int32.ofNat 16 from rfl, show (300 : Int32) = Int32.ofNat 300 from rfl, i_ad, i_subn (by omega), show 16 + (300 + (b - 16)) - 300 = b by omega]
  | none =>
    dsimp only at nx hp
    obtain ⟨n1, k, x, r, k1, k2, ew, k3, k4, k5⟩ := nx
    have hL := hp x r ew
    have eu : hpU a u = ((some x.2.2, u.1.2), u.2) := by
      unfold hpU
      rw [en, ew]
    rw [eu]
    refine pre n1 (fun τ h1 e35 eo => ?_)
    rw [k2]
    refine WP_if (p := True) (by rw [c2_lt, show (300 : Int32) = Int32.ofNat 300 from rfl, Int32.lt_iff_toInt_lt, Int32.toInt_ofNat_of_lt (by omega), Int32.toInt_ofNat_of_lt (by omega)]; exact ⟨fun _ => trivial, fun _ => by omega⟩) (fun _ => ?_) (fun y => absurd trivial y)
    refine WP_if (p := True) (by rw [c2_lt, show (200 : Int32) = Int32.ofNat 200 from rfl, Int32.lt_iff_toInt_lt, Int32.toInt_ofNat_of_lt (by omega), Int32.toInt_ofNat_of_lt (by omega)]; exact ⟨fun _ => trivial, fun _ => by omega⟩) (fun _ => ?_) (fun y => absurd trivial y)
    rw [show (0 : Int32) &&& 1 = 0 from rfl]
    refine RM_off1 (x := x) (r := r) hF h1 ew he.1 k1 (by rw [eo 17 (by decide) (by decide)]; exact k3) (by rw [eo 18 (by decide) (by decide)]; exact k4) (by rw [eo 19 (by decide) (by decide)]; exact k5) (fun τ2 h2 => ?_)
    have h3 := hL τ2 h2
    obtain ⟨y2, y3, y4, _, _, _, w, _⟩ := h_inl h2 rfl
    refine WP_ld (n := 353) rfl 354 (by decide +kernel) (by omega) ?_
    refine WP_ld (n := 353) rfl 354 (by decide +kernel) (by omega) ?_
    rw [y2, y3]
    refine WP_eq (M_parted h2) ?_
    have eh : A_happen a (t, none) = (if A_parted (aWayS (hp1 a t) r) (x.2.2.1 2) (x.2.2.1 3) ∨ (x.2.2.1 3 < 7 ∧ aS (aWayS (hp1 a t) r) 52 (x.2.2.1 3).toNatClampNeg = 0) then (aAdd (aWayS (hp1 a t) r) 22 0 1, x.2.2.1 3)
      else if x.2.2.1 3 < 7 then (if x.2.2.1 4 = 10 then A_asked (aWayS (hp1 a t) r) (x.2.2.1 3).toNatClampNeg x.2.2 else A_came (aWayS (hp1 a t) r) (x.2.2.1 3).toNatClampNeg x.2.2, x.2.2.1 3)
      else (A_hear (aWayS (hp1 a t) r) ((x.2.2.1 3).toNatClampNeg - 8) x.2.2, x.2.2.1 3)) := by
      unfold A_happen
      dsimp only
      rw [ew]
      rfl
    rw [eh]
    have lost : WP (m_happen_b178 F τ2 (x.2.2.1 3)) (fun p => p.1 = x.2.2.1 3 ∧ RM p.2 (aAdd (aWayS (hp1 a t) r) 22 0 1) ((some x.2.2, u.1.2), u.2)) := by
      unfold m_happen_b178 m_happen_b236
      rw [show τ2.1 22 0 = aS (aWayS (hp1 a t) r) 22 0 from RM_0 h2 (by decide)]
      exact WP_w0 h2 (by decide) (fun σ5 h5 => WP_some ⟨rfl, h5⟩)
    generalize hA2 : aWayS (hp1 a t) r = a2 at h2 h3 lost
    generalize hl : x.2.2 = l at y2 y3 y4 w h2 h3 lost eh
    cases hpa : A_parted a2 (l.1 2) (l.1 3) with
    | true =>
      refine WP_if c0_ne (fun _ => ?_) (fun y => absurd (show (1 : Int32) = 0 from Classical.not_not.mp y) (by decide))
      rw [if_pos (Or.inl rfl)]
      exact lost
    | false =>
      refine WP_if c0_ne (fun y => absurd rfl y) (fun _ => ?_)
      obtain ⟨r1, r2⟩ := h3 hpa
      have t7 : l.1 3 < 7 ∨ (¬ l.1 3 < 7 ∧ ¬ l.1 3 < 8 ∧ 7 ≤ l.1 3) := by
        rcases w.2 with z | z
        · left
          unfold aInR at z
          have z := of_decide_eq_true (Bool.and_eq_true_iff.mp z).2
          rw [Int32.le_iff_toInt_le] at z
          rw [Int32.lt_iff_toInt_lt, show (7 : Int32).toInt = 7 by decide]
          rw [show (6 : Int32).toInt = 6 by decide] at z
          omega
        · right
          unfold aInR at z
          have z := of_decide_eq_true (Bool.and_eq_true_iff.mp z).1
          rw [Int32.le_iff_toInt_le, show (8 : Int32).toInt = 8 by decide] at z
          rw [Int32.lt_iff_toInt_lt, Int32.lt_iff_toInt_lt, Int32.le_iff_toInt_le, show (7 : Int32).toInt = 7 by decide, show (8 : Int32).toInt = 8 by decide]
          omega
      have nf : ¬ ((false = true) : Prop) := by decide
      rcases t7 with t7 | ⟨t7, t8, t9⟩
      · refine WP_if c2_ge (fun y => absurd t7 (Int32.not_lt.mpr y)) (fun _ => ?_)
        obtain ⟨s, es, hs⟩ : ∃ s, l.1 3 = Int32.ofNat s ∧ s < 7 := by
          rcases w.2 with z | z
          · obtain ⟨s, s1, s2⟩ := in_nat2 (hi := 6) (by omega) z
            exact ⟨s, s1, by omega⟩
          · exfalso
            unfold aInR at z
            have z := of_decide_eq_true (Bool.and_eq_true_iff.mp z).1
            rw [Int32.le_iff_toInt_le, show (8 : Int32).toInt = 8 by decide] at z
            rw [Int32.lt_iff_toInt_lt, show (7 : Int32).toInt = 7 by decide] at t7
            omega
        have ec : (l.1 3).toNatClampNeg = s := by rw [es, i_cl (by omega)]
        rw [ec] at r1 ⊢
        have go : ¬ aS a2 52 s = 0 → WP (m_happen_b191 F τ2 (l.1 2) (l.1 3)) (fun p => p.1 = (if false = true ∨ (l.1 3 < 7 ∧ aS a2 52 s = 0) then (aAdd a2 22 0 1, l.1 3)
      else if l.1 3 < 7 then (if l.1 4 = 10 then A_asked a2 s l else A_came a2 s l, l.1 3)
      else (A_hear a2 (s - 8) l, l.1 3)).2 ∧ RM p.2 (if false = true ∨ (l.1 3 < 7 ∧ aS a2 52 s = 0) then (aAdd a2 22 0 1, l.1 3)
      else if l.1 3 < 7 then (if l.1 4 = 10 then A_asked a2 s l else A_came a2 s l, l.1 3)
      else (A_hear a2 (s - 8) l, l.1 3)).1 ((some l, u.1.2), u.2)) := by
          intro q52
          rw [if_neg (fun y => y.elim nf (fun z => q52 z.2)), if_pos t7]
          unfold m_happen_b191 m_happen_b236
          refine WP_if c2_lt (fun _ => ?_) (fun y => absurd (by
            rw [Int32.lt_iff_toInt_lt] at t7 ⊢
            rw [show (7 : Int32).toInt = 7 by decide] at t7
            rw [show (8 : Int32).toInt = 8 by decide]
            omega) y)
          refine WP_ld (n := 353) rfl 354 (by decide +kernel) (by omega) ?_
          rw [y4]
          obtain ⟨r3, r4⟩ := r1 t7 q52
          refine WP_if c2_ne (fun y => ?_) (fun y => ?_)
          · rw [if_neg y]
            exact WP_call (r4 y) (fun p hp => WP_some ⟨rfl, hp⟩)
          · have y := Classical.not_not.mp y
            rw [if_pos y]
            exact WP_call (r3 y) (fun p hp => WP_some ⟨rfl, hp⟩)
        rw [es]
        refine WP_r7 h2 (by decide) hs ?_
        rw [← es]
        refine WP_if c0_ne (fun q52 => go q52) (fun q52 => ?_)
        rw [if_pos (Or.inr ⟨t7, Classical.not_not.mp q52⟩)]
        exact lost
      · refine WP_if c2_ge (fun _ => ?_) (fun y => absurd t9 y)
        rw [if_neg (fun y => y.elim nf (fun z => t7 z.1)), if_neg t7]
        unfold m_happen_b191 m_happen_b236
        refine WP_if c2_lt (fun y => absurd y t8) (fun _ => ?_)
        exact WP_call (r2 t7) (fun p hp => WP_some ⟨rfl, hp⟩)
