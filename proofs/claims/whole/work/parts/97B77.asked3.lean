theorem M_asked {F : Nat} {σ : RS} {a : AA} {u : AU} {s : Nat} {l : AL} (hF : 400 ≤ F) (h : RM σ a u) (hs : s < 7) (hl : u.1.1 = some l) (hq : rqOK (aAk a) l) (hup : aS a 52 s = 1) (hz : u.2 s) (hz7 : u.2 (7 + s)) (hmk : u.2 (14 + s)) (hmx : (aS a 151 s).toInt < 2147483000) (hp : pRoom a s) (hrd : aS a 73 s = 3 → ¬ aS a 83 s + 1 = -1) : WP (m_asked F σ (Int32.ofNat s) (l.1 2)) (fun τ => RM τ (A_asked a s l) u) := by
  obtain ⟨e9, t0, t1⟩ := tdA h hl hq
  obtain ⟨h10, hc, hq'⟩ := id hq
  have wl := RM_wl h hs
  have mk := h.2.2.2.2.2.2.2.2.2.2.2.2.2.2.2.2.2.2.2.2.2.2.1 s hs hmk
  have eA : A_asked a s l = (if ¬ aS a 73 s = 3 ∨ 0 ≤ aS a 80 s then aReply a s (aqQ l) 1 (if aS a 73 s = 3 then aS a 80 s else aS a 74 s) []
  else if l.1 6 = 2 then aHold a s l (if aTermAt a s (aS a 75 s) = aS a 53 s then aS a 75 s else aS a 82 s) (aRound a s + 1)
  else if 200 ≤ aLast a s - aBase a s then aReply a s (aqQ l) 3 0 []
  else aHold (A_sendAll (A_append a s (aS a 53 s, 2, l.1 12, l.1 14, l.1 15, l.1 16)) s false) s l (aLast (A_append a s (aS a 53 s, 2, l.1 12, l.1 14, l.1 15, l.1 16)) s) (-1)) := rfl
  -- no leader
  have b69 : (¬ aS a 73 s = 3 ∨ 0 ≤ aS a 80 s) → WP (m_asked_b69 F σ (Int32.ofNat s) (l.1 2) (l.1 5)) (fun τ => RM τ (A_asked a s l) u) := by
    intro hn
    rw [eA, if_pos hn]
    unfold m_asked_b69 m_asked_b99
    refine WP_r7 h (by decide) hs ?_
    refine WP_if c2_ne (fun q => ?_) (fun q => ?_)
    · rw [if_neg q]
      refine WP_r7 h (by decide) hs ?_
      exact asked_reply hF h hs hc (by decide)
    · rw [if_pos (Classical.not_not.mp q)]
      refine WP_r7 h (by decide) hs ?_
      exact asked_reply hF h hs hc (by decide)
  -- the kind, and whether it is a read
  have kind : ∃ kd : Int32, σ.1 12 2824 = kd ∧ ((3 ≤ kd ∧ kd ≤ 5) ↔ l.1 6 = 2) := by
    by_cases q : l.1 6 = 0
    · refine ⟨6, (t0 q).1, ⟨fun z => absurd z.2 (by decide), fun z => ?_⟩⟩
      rw [q] at z
      exact absurd z (by decide)
    · obtain ⟨k, k1, k2, k3, k4, _⟩ := t1 q
      refine ⟨_, k4, ?_⟩
      obtain ⟨kd, f, v, y1, y2, _⟩ := ask_nat k2
      rcases hq' with z | ⟨z1, z2, z3, z4, z5⟩
      · exact absurd z.1 q
      · rw [k1] at z4
        constructor
        · intro y
          rcases z1 with z1 | z1
          · exact absurd (z4.mpr z1) (Int32.not_lt.mpr y.1)
          · exact z1
        · intro y
          have n3 : ¬ k.1 1 < 3 := fun x => by
            have := z4.mp x
            rw [y] at this
            exact absurd this (by decide)
          refine ⟨Int32.not_lt.mp n3, ?_⟩
          rw [y1, show (5 : Int32) = Int32.ofNat 5 from rfl, i_ltn (by omega) (by omega)]
          exact y2
  obtain ⟨kd, ekd, hkd⟩ := kind
  -- a leader
  have lead : ∀ rd : Int32, (¬ rd = 0 ↔ l.1 6 = 2) → WP (m_asked_b52 F σ rd (Int32.ofNat s) (l.1 2) (l.1 5) (if 0 ≤ aS a 80 s then 1 else 0) kd) (fun τ => RM τ (A_asked a s l) u) := by
    intro rd hrd2
    unfold m_asked_b52
    refine WP_r7 h (by decide) hs ?_
    refine WP_if c2_ne (fun q => b69 (Or.inl q)) (fun q => ?_)
    have q := Classical.not_not.mp q
    by_cases q80 : 0 ≤ aS a 80 s
    · rw [if_pos q80]
      exact WP_if c0_eq (fun y => absurd y (by decide)) (fun _ => b69 (Or.inr q80))
    · rw [if_neg q80]
      refine WP_if c0_eq (fun _ => ?_) (fun y => absurd rfl y)
      have hn : ¬ (¬ aS a 73 s = 3 ∨ 0 ≤ aS a 80 s) := fun y => y.elim (fun z => z q) q80
      rw [eA, if_neg hn]
      refine WP_if c0_ne (fun qr => ?_) (fun qr => ?_)
      · -- a read
        have r6 := hrd2.mp qr
        rw [if_pos r6]
        have n0 : ¬ l.1 6 = 0 := by rw [r6]; decide
        obtain ⟨k, k1, k2, k3, k4, k5, k6, k7, k8, k9, k10⟩ := t1 n0
        obtain ⟨hk3, hk5⟩ := hkd.mpr r6
        have ekk : kd = k.1 1 := ekd.symm.trans k4
        unfold m_asked_b151
        refine WP_ld (n := 2829) rfl 2832 (by decide +kernel) (by omega) ?_
        refine WP_if c0_ne (fun _ => ?_) (fun y => absurd qr y)
        refine WP_r7 h (by decide) hs ?_
        have hn75 : aS a 75 s = aBase a s ∨ aHas a s (aS a 75 s) = true := by
          obtain ⟨m1, m2, m3, m4⟩ := mk
          by_cases y : aS a 75 s = aBase a s
          · exact Or.inl y
          · right
            unfold aHas
            rw [Bool.and_eq_true_iff]
            refine ⟨decide_eq_true ?_, decide_eq_true m3⟩
            rw [Int32.lt_iff_toInt_lt]
            rw [Int32.le_iff_toInt_le] at m1 m2
            have : (aS a 75 s).toInt ≠ (aBase a s).toInt := fun z => y (Int32.toInt_inj.mp z)
            omega
        refine WP_eq (M_termAt h hs hn75) ?_
        refine WP_r7 h (by decide) hs ?_
        have kk64 : k.2.length ≤ 64 := by
          obtain ⟨n, f, v, y1, y2, y3, y4, y5, y6, y7, y8, y9, y10, y11, y12, y13⟩ := ask_nat k2
          rw [ekk, y1] at hk3 hk5
          rw [show (3 : Int32) = Int32.ofNat 3 from rfl, i_ltn (by omega) (by omega)] at hk3
          by_cases z : n = 4
          · have := y12 z
            omega
          · have := y13 (by omega)
            omega
        rcases hq' with z | ⟨z1, z2, z3, z4, z5⟩
        · exact absurd z.1 n0
        · have hold : ∀ num, WP (m_asked_b412 F σ num (Int32.ofNat s) (l.1 2) (l.1 5) kd (σ.1 12 2829)) (fun τ => RM τ (aHold a s l num (aRound a s + 1)) u) := by
            intro num
            unfold m_asked_b412
            refine WP_ld (n := 2827) rfl 2832 (by decide +kernel) (by omega) ?_
            refine WP_call (M_hold (number := num) (round := aRound a s + 1) hF h hs hl hc hmx (Or.inr ⟨rfl, hrd q, rfl, z3, k, k1, by rw [← ekk]; exact hk3, by rw [← ekk]; exact hk5, ekk, k7, k9, kk64, k2.2.2, k3⟩)) (fun p hp => WP_some hp)
          refine WP_if c2_ne (fun y => ?_) (fun y => ?_)
          · rw [if_neg y]
            refine WP_r7 h (by decide) hs ?_
            exact hold _
          · rw [if_pos (Classical.not_not.mp y)]
            refine WP_r7 h (by decide) hs ?_
            exact hold _
      · -- a command
        have r6 : ¬ l.1 6 = 2 := fun y => qr (hrd2.mpr y)
        have qr := Classical.not_not.mp qr
        rw [if_neg r6]
        refine WP_r7 h (by decide) hs ?_
        refine WP_r7 h (by decide) hs ?_
        refine WP_if c2_lt (fun q2 => ?_) (fun q2 => ?_)
        · rw [if_neg (show ¬ 200 ≤ aLast a s - aBase a s from Int32.not_le.mpr q2)]
          have hpa : pApp a s := pApp_of wl hp (by
            intro y
            have q2 : aLast a s - aBase a s < 200 := q2
            rw [Int32.lt_iff_toInt_lt] at q2
            rw [Int32.le_iff_toInt_le] at y
            rw [show (200 : Int32).toInt = 200 by decide] at q2
            rw [show (300 : Int32).toInt = 300 by decide] at y
            omega)
          unfold m_asked_b151
          refine WP_ld (n := 2829) rfl 2832 (by decide +kernel) (by omega) ?_
          refine WP_if c0_ne (fun y => absurd qr y) (fun _ => ?_)
          refine WP_r7 h (by decide) hs ?_
          refine WP_eq (M_nextContent h hs) ?_
          rcases hq' with ⟨z1, z2, z3⟩ | ⟨z1, z2, z3, z4, z5⟩
          · -- to open
            have e6 : kd = 6 := ekd.symm.trans (t0 z1).1
            rw [e6]
            refine WP_if c2_ne (fun y => absurd rfl y) (fun _ => ?_)
            unfold m_asked_b202
            refine WP_if c2_eq (fun _ => ?_) (fun y => absurd rfl y)
            have key := asked_327 (kd := 6) hF h hs hl hq r6 hup hz hz7 q hmx hpa (by
              unfold eCon
              dsimp only
              rw [if_neg (by decide), if_pos rfl, if_pos z3]
              intro i v _ hv
              match i, hv with
              | 0, hv => exact absurd hv (by simp)
              | 1, hv => exact absurd hv (by simp)
              | i + 2, hv => exact absurd hv (by simp))
            rw [z2] at key ⊢
            exact key
          · -- to do
            have n0 : ¬ l.1 6 = 0 := fun y => by
              rw [y] at z1
              exact absurd z1 (by decide)
            obtain ⟨k, k1, k2, k3, k4, k5, k6, k7, k8, k9, k10⟩ := t1 n0
            have ekk : kd = k.1 1 := ekd.symm.trans k4
            have n6 : ¬ k.1 1 = 6 := by
              obtain ⟨n, f, v, y1, y2, _⟩ := ask_nat k2
              rw [y1, show (6 : Int32) = Int32.ofNat 6 from rfl, i_eqi (by omega) (by omega)]
              omega
            have n16 : ¬ l.1 16 = -1 := by
              intro y
              rw [y] at z2
              exact absurd z2 (by decide)
            rw [ekk]
            refine WP_if c2_ne (fun _ => ?_) (fun y => absurd n6 y)
            rw [k9]
            have e12 : (12 : Int32) + Int32.ofNat k.2.length = l.1 12 := by rw [z5, k1]
            rw [e12]
            exact asked_lay hF h hs hl h10 n0 n16 k1 k2 k3 k5 k6 k7 k8 k10 (fun τ hτ hb => asked_327 hF hτ hs hl hq r6 hup hz hz7 q hmx hpa hb) n6
        · rw [if_pos (show 200 ≤ aLast a s - aBase a s from Int32.not_lt.mp q2)]
          exact asked_reply hF h hs hc (by decide)
  unfold m_asked m_asked_b0
  refine WP_ld (n := 353) rfl 354 (by decide +kernel) (by omega) ?_
  rw [e9]
  refine WP_r7 h (by decide) hs ?_
  have b23 : WP (m_asked_b23 F σ (if 0 ≤ aS a 80 s then 1 else 0) (Int32.ofNat s) (l.1 2) (l.1 5)) (fun τ => RM τ (A_asked a s l) u) := by
    unfold m_asked_b23 m_asked_b51
    refine WP_ld (n := 2824) rfl 2832 (by decide +kernel) (by omega) ?_
    rw [ekd]
    have no : ¬ (3 ≤ kd ∧ kd ≤ 5) → WP (m_asked_b52 F σ 0 (Int32.ofNat s) (l.1 2) (l.1 5) (if 0 ≤ aS a 80 s then 1 else 0) kd) (fun τ => RM τ (A_asked a s l) u) := fun y => lead 0 ⟨fun z => absurd rfl z, fun z => absurd (hkd.mpr z) y⟩
    refine WP_if c2_lt (fun y => ?_) (fun y => ?_)
    · exact no (fun z => Int32.not_lt.mpr z.1 y)
    · refine WP_if c2_gt (fun y2 => ?_) (fun y2 => ?_)
      · exact no (fun z => Int32.not_lt.mpr z.2 y2)
      · exact lead 1 ⟨fun _ => hkd.mp ⟨Int32.not_lt.mp y, Int32.not_lt.mp y2⟩, fun _ => by decide⟩
  refine WP_if c0_lt (fun y => ?_) (fun y => ?_)
  · rw [if_neg (Int32.not_le.mpr y)] at b23
    exact b23
  · rw [if_pos (Int32.not_lt.mp y)] at b23
    exact b23
