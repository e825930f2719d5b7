/-! the face: what is told of servers -/
/-- how many requests wait -/
theorem rq_count {σ : RS} {a : AA} {u : AU} {s : Nat} (h : RM σ a u) (hs : s < 7) : ((List.range 32).filter (fun w => !decide (σ.1 95 (32 * s + w) = 0))).length = (aRq a s).length := by
  obtain ⟨b, e1, e1', e2, e3, e4, e5⟩ := h.2.2.2.2.2.2.2.2.2.2.2.2.1 s hs
  have nd : ((aRq a s).map (fun q => rqj (u.1.2 s) q % 32)).Nodup := by
    rw [show (aRq a s).map (fun q => rqj (u.1.2 s) q % 32) = ((aRq a s).map (rqj (u.1.2 s))).map (· % 32) by rw [List.map_map]; rfl]
    have hin : ∀ j ∈ (aRq a s).map (rqj (u.1.2 s)), j < b ∧ b ≤ j + 32 := by
      intro j hj
      rw [List.mem_map] at hj
      obtain ⟨q, hq, rfl⟩ := hj
      exact ⟨(e4 q hq).2.1, (e4 q hq).2.2.1⟩
    generalize (aRq a s).map (rqj (u.1.2 s)) = L at e3 hin
    induction L with
    | nil => exact List.Pairwise.nil
    | cons x r ih =>
      rw [List.pairwise_cons] at e3
      rw [List.map_cons, List.nodup_cons]
      refine ⟨fun z => ?_, ih e3.2 (fun j hj => hin j (List.mem_cons_of_mem _ hj))⟩
      rw [List.mem_map] at z
      obtain ⟨y, hy, ey⟩ := z
      have h1 := e3.1 y hy
      have h2 := hin x List.mem_cons_self
      have h3 := hin y (List.mem_cons_of_mem _ hy)
      omega
  have pm : List.Perm ((List.range 32).filter (fun w => !decide (σ.1 95 (32 * s + w) = 0))) ((aRq a s).map (fun q => rqj (u.1.2 s) q % 32)) := by
    refine (List.perm_ext_iff_of_nodup (List.Pairwise.filter _ List.nodup_range) nd).mpr (fun w => ?_)
    rw [List.mem_filter, List.mem_range]
    constructor
    · rintro ⟨w1, w2⟩
      rw [e5 w w1] at w2
      by_cases q : w ∈ (aRq a s).map (fun q => rqj (u.1.2 s) q % 32)
      · exact q
      · rw [if_neg q] at w2
        exact absurd w2 (by decide)
    · intro q
      have hw : w < 32 := by
        rw [List.mem_map] at q
        obtain ⟨x, _, rfl⟩ := q
        exact Nat.mod_lt _ (by decide)
      refine ⟨hw, ?_⟩
      rw [e5 w hw, if_pos q]
      decide
  rw [pm.length_eq, List.length_map]
theorem F_server {F : Nat} {σ : RS} {a : AA} {u : AU} {s what : Int32} (hF : 400 ≤ F) (h : RM σ a u) (hbit : ∀ s, s < 7 → (aS a 52 s = 0 ∨ aS a 52 s = 1) ∧ (aS a 71 s = 0 ∨ aS a 71 s = 1)) : FW (m_server F σ s what) (A_server (aI a 0 0 0) s what) u := by
  unfold A_server m_server m_server_b0 m_server_b29
  have thr : ∀ v, FW (m_server_b30 F σ 1 s what) (aI a 0 0 0, 1, v) u := by
    intro v
    unfold m_server_b30
    refine FW_no (by decide) (WP_th h (fun τ hτ e0 => ?_))
    rw [e0]
    exact WP_if c0_le (fun y => absurd y (by decide)) (fun _ => WP_some hτ)
  by_cases q1 : aInR s 0 6 = true
  · by_cases q3 : aInR what 0 20 = true
    · rw [q1, q3]
      simp only [Bool.not_true, Bool.or_self, Bool.false_eq_true, if_false]
      refine FW_ok rfl (WP_in (lo' := 0) (hi' := 6) (by decide) (by decide) (fun _ => ?_) (fun y => by rw [q1] at y; exact absurd y (by decide)))
      refine WP_if c0_eq (fun y => absurd (show (1 : Int32) = 0 from y) (by decide)) (fun _ => ?_)
      refine WP_in (lo' := 0) (hi' := 20) (by decide) (by decide) (fun _ => ?_) (fun y => by rw [q3] at y; exact absurd y (by decide))
      refine WP_if c0_eq (fun y => absurd (show (1 : Int32) = 0 from y) (by decide)) (fun _ => ?_)
      unfold m_server_b30
      refine WP_th h (fun τ hτ e0 => ?_)
      rw [e0]
      refine WP_if c0_le (fun _ => ?_) (fun y => absurd (by decide) y)
      obtain ⟨p, e1, hp⟩ := in_nat2 (hi := 6) (by omega) q1
      have hp7 : p < 7 := by omega
      rw [e1, i_cl (by omega)]
      obtain ⟨b52, b71⟩ := hbit p hp7
      have b52 : aS (aI a 0 0 0) 52 p = 0 ∨ aS (aI a 0 0 0) 52 p = 1 := b52
      have b71 : aS (aI a 0 0 0) 71 p = 0 ∨ aS (aI a 0 0 0) 71 p = 1 := b71
      generalize aI a 0 0 0 = b at hτ b52 b71
      unfold aTellServer
      refine WP_if c0_ne (fun w0 => ?_) (fun w0 => ?_)
      · rw [if_neg w0]
        refine WP_r7 hτ (by decide) hp7 ?_
        refine WP_if c0_ne (fun u0 => ?_) (fun u0 => ?_)
        · rw [if_neg u0]
          refine WP_if Iff.rfl (fun w1 => ?_) (fun w1 => ?_)
          · rw [if_pos w1]
            exact WP_r7 hτ (by decide) hp7 (WP_some ⟨hτ, rfl⟩)
          rw [if_neg w1]
          refine WP_if Iff.rfl (fun w1 => ?_) (fun w1 => ?_)
          · rw [if_pos w1]
            exact WP_r7 hτ (by decide) hp7 (WP_some ⟨hτ, rfl⟩)
          rw [if_neg w1]
          refine WP_if Iff.rfl (fun w1 => ?_) (fun w1 => ?_)
          · rw [if_pos w1]
            exact WP_r7 hτ (by decide) hp7 (WP_some ⟨hτ, rfl⟩)
          rw [if_neg w1]
          refine WP_if Iff.rfl (fun w1 => ?_) (fun w1 => ?_)
          · rw [if_pos w1]
            exact WP_r7 hτ (by decide) hp7 (WP_some ⟨hτ, rfl⟩)
          rw [if_neg w1]
          refine WP_if Iff.rfl (fun w1 => ?_) (fun w1 => ?_)
          · rw [if_pos w1]
            exact WP_r7 hτ (by decide) hp7 (WP_some ⟨hτ, rfl⟩)
          rw [if_neg w1]
          refine WP_if Iff.rfl (fun w1 => ?_) (fun w1 => ?_)
          · rw [if_pos w1]
            exact WP_r7 hτ (by decide) hp7 (WP_some ⟨hτ, rfl⟩)
          rw [if_neg w1]
          refine WP_if Iff.rfl (fun w1 => ?_) (fun w1 => ?_)
          · rw [if_pos w1]
            exact WP_r7 hτ (by decide) hp7 (WP_some ⟨hτ, rfl⟩)
          rw [if_neg w1]
          refine WP_if Iff.rfl (fun w1 => ?_) (fun w1 => ?_)
          · rw [if_pos w1]
            exact WP_r7 hτ (by decide) hp7 (WP_some ⟨hτ, rfl⟩)
          rw [if_neg w1]
          refine WP_if Iff.rfl (fun w1 => ?_) (fun w1 => ?_)
          · rw [if_pos w1]
            exact WP_r7 hτ (by decide) hp7 (WP_some ⟨hτ, rfl⟩)
          rw [if_neg w1]
          refine WP_if Iff.rfl (fun w1 => ?_) (fun w1 => ?_)
          · rw [if_pos w1]
            exact WP_r7 hτ (by decide) hp7 (WP_some ⟨hτ, rfl⟩)
          rw [if_neg w1]
          refine WP_if Iff.rfl (fun w1 => ?_) (fun w1 => ?_)
          · rw [if_pos w1]
            exact WP_r7 hτ (by decide) hp7 (WP_some ⟨hτ, rfl⟩)
          rw [if_neg w1]
          refine WP_if Iff.rfl (fun w1 => ?_) (fun w1 => ?_)
          · rw [if_pos w1]
            exact WP_r7 hτ (by decide) hp7 (WP_some ⟨hτ, rfl⟩)
          rw [if_neg w1]
          refine WP_if Iff.rfl (fun w1 => ?_) (fun w1 => ?_)
          · rw [if_pos w1]
            refine WP_r7 hτ (by decide) hp7 ?_
            unfold m_server_b262
            rcases b71 with z | z
            · rw [z]
              exact WP_if c0_eq (fun _ => WP_some ⟨hτ, rfl⟩) (fun y => absurd rfl y)
            · rw [z]
              exact WP_if c0_eq (fun y => absurd (show (1 : Int32) = 0 from y) (by decide)) (fun _ => WP_some ⟨hτ, rfl⟩)
          rw [if_neg w1]
          refine WP_if Iff.rfl (fun w1 => ?_) (fun w1 => ?_)
          · rw [if_pos w1]
            refine WP_r7 hτ (by decide) hp7 ?_
            unfold m_server_b283
            refine WP_if c2_ne (fun r3 => ?_) (fun r3 => ?_)
            · rw [if_neg r3]
              exact WP_some ⟨hτ, rfl⟩
            · rw [if_pos (Classical.not_not.mp r3)]
              exact WP_r7 hτ (by decide) hp7 (WP_some ⟨hτ, rfl⟩)
          rw [if_neg w1]
          refine WP_if Iff.rfl (fun w1 => ?_) (fun w1 => ?_)
          · rw [if_pos w1]
            refine WP_ld rfl 7 (by decide +kernel) hp7 (WP_some ⟨hτ, ?_⟩)
            exact (hτ.2.2.1 p hp7).1
          rw [if_neg w1]
          refine WP_if Iff.rfl (fun w1 => ?_) (fun w1 => ?_)
          · rw [if_pos w1]
            have cnt := rq_count hτ hp7
            have loop : ∀ n k, 33 ≤ k + n → k ≤ 32 → WP (m_server_b297 F n τ (Int32.ofNat p) (Int32.ofNat ((List.range k).filter (fun w => !decide (τ.1 95 (32 * p + w) = 0))).length) (Int32.ofNat (32 * p + k))) (fun q => RM q.2 b u ∧ q.1 = Int32.ofNat (aRq b p).length) := by
              intro n
              induction n with
              | zero => intro k h1 h2; omega
              | succ n ih =>
                intro k h1 h2
                unfold m_server_b297
                refine WP_if (p := 32 ≤ k) (by
                  rw [show (32 : Int32) * Int32.ofNat p + 32 = Int32.ofNat (32 * p + 32) from i_ma (c := 32) (j := 32), i_gei (by omega) (by omega)]
                  omega) (fun y => ?_) (fun y => ?_)
                · have : k = 32 := by omega
                  subst this
                  rw [cnt]
                  exact WP_some ⟨hτ, rfl⟩
                · refine WP_ld rfl 224 (by decide +kernel) (by omega) ?_
                  unfold m_server_b325
                  rw [i_s]
                  have es : ((List.range (k + 1)).filter (fun w => !decide (τ.1 95 (32 * p + w) = 0))).length = ((List.range k).filter (fun w => !decide (τ.1 95 (32 * p + w) = 0))).length + if τ.1 95 (32 * p + k) = 0 then 0 else 1 := by
                    rw [List.range_succ, List.filter_append, List.length_append]
                    by_cases z : τ.1 95 (32 * p + k) = 0
                    · rw [if_pos z, List.filter_cons, if_neg (by rw [decide_eq_true z]; decide)]
                      rfl
                    · rw [if_neg z, List.filter_cons, if_pos (by rw [decide_eq_false z]; rfl)]
                      rfl
                  have nx := ih (k + 1) (by omega) (by omega)
                  rw [es] at nx
                  refine WP_if c0_eq (fun z => ?_) (fun z => ?_)
                  · rw [if_pos z] at nx
                    rw [Int32.add_zero]
                    exact nx
                  · rw [if_neg z] at nx
                    rw [i_s]
                    exact nx
            have := loop F 0 (by omega) (Nat.zero_le _)
            rw [show (32 : Int32) * Int32.ofNat p = Int32.ofNat (32 * p + 0) from i_mc]
            exact this
          rw [if_neg w1]
          refine WP_if Iff.rfl (fun w1 => ?_) (fun w1 => ?_)
          · rw [if_pos w1]
            refine WP_ld rfl 7 (by decide +kernel) hp7 (WP_some ⟨hτ, ?_⟩)
            exact (hτ.2.2.2.2.2.2.2.2.2.1 p hp7).2.1
          rw [if_neg w1]
          refine WP_if Iff.rfl (fun w1 => ?_) (fun w1 => ?_)
          · rw [if_pos w1]
            refine WP_ld rfl 7 (by decide +kernel) hp7 (WP_some ⟨hτ, ?_⟩)
            exact (hτ.2.2.2.2.2.2.2.2.2.1 p hp7).2.2.1
          rw [if_neg w1]
          refine WP_if Iff.rfl (fun w1 => ?_) (fun w1 => ?_)
          · rw [if_pos w1]
            obtain ⟨sl, hlk⟩ := RMc_k (hτ.2.2.2.2.2.2.2.2.2.1 p hp7)
            refine WP_eq (m_units_n hF hp7 hlk) (WP_some ⟨hτ, rfl⟩)
          rw [if_neg w1]
          exact WP_r7 hτ (by decide) hp7 (WP_some ⟨hτ, rfl⟩)
        · rw [if_pos (Classical.not_not.mp u0)]
          exact WP_some ⟨hτ, rfl⟩
      · rw [if_pos (Classical.not_not.mp w0)]
        refine WP_r7 hτ (by decide) hp7 ?_
        unfold m_server_b60
        rcases b52 with z | z
        · rw [z]
          exact WP_if c0_eq (fun _ => WP_some ⟨hτ, rfl⟩) (fun y => absurd rfl y)
        · rw [z]
          exact WP_if c0_eq (fun y => absurd (show (1 : Int32) = 0 from y) (by decide)) (fun _ => WP_some ⟨hτ, rfl⟩)
    · have q3 := b_false q3
      rw [q1, q3]
      simp only [Bool.not_true, Bool.not_false, Bool.or_true, if_true]
      refine WP_in (lo' := 0) (hi' := 6) (by decide) (by decide) (fun _ => ?_) (fun y => by rw [q1] at y; exact absurd y (by decide))
      refine WP_if c0_eq (fun y => absurd (show (1 : Int32) = 0 from y) (by decide)) (fun _ => ?_)
      refine WP_in (lo' := 0) (hi' := 20) (by decide) (by decide) (fun y => by rw [q3] at y; exact absurd y (by decide)) (fun _ => ?_)
      refine WP_if c0_eq (fun _ => ?_) (fun y => absurd rfl y)
      exact thr 0
  · have q1 := b_false q1
    rw [q1]
    simp only [Bool.not_false, Bool.true_or, if_true]
    refine WP_in (lo' := 0) (hi' := 6) (by decide) (by decide) (fun y => by rw [q1] at y; exact absurd y (by decide)) (fun _ => ?_)
    refine WP_if c0_eq (fun _ => ?_) (fun y => absurd rfl y)
    exact thr 0
theorem F_entry {σ : RS} {a : AA} {u : AU} {s i what : Int32} (h : RM σ a u) : FW (m_entry σ s i what) (A_entry (aI a 0 0 0) s i what) u := by
  have thr : ∀ v, FW (m_entry_b101 σ s i what) (aI a 0 0 0, 1, v) u := by
    intro v
    unfold m_entry_b101 m_entry_b102 m_entry_b115
    refine FW_no (by decide) (WP_if c0_eq (fun _ => ?_) (fun y => absurd rfl y))
    refine WP_th h (fun τ hτ e0 => ?_)
    rw [e0]
    exact WP_if c0_le (fun y => absurd y (by decide)) (fun _ => WP_some hτ)
  have thr2 : ∀ v, FW (m_entry_b53 σ s i what) (aI a 0 0 0, 1, v) u := by
    intro v
    unfold m_entry_b53 m_entry_b54
    exact WP_if c0_eq (fun _ => thr v) (fun y => absurd rfl y)
  unfold A_entry m_entry m_entry_b0
  by_cases q1 : aInR s 0 6 = true
  · rw [q1]
    simp only [Bool.not_true, Bool.false_eq_true, if_false]
    refine WP_in (lo' := 0) (hi' := 6) (by decide) (by decide) (fun _ => ?_) (fun y => by rw [q1] at y; exact absurd y (by decide))
    refine WP_if c0_eq (fun y => absurd (show (1 : Int32) = 0 from y) (by decide)) (fun _ => ?_)
    refine WP_in (lo' := 0) (hi' := 6) (by decide) (by decide) (fun _ => ?_) (fun y => by rw [q1] at y; exact absurd y (by decide))
    refine WP_if c0_eq (fun y => absurd (show (1 : Int32) = 0 from y) (by decide)) (fun _ => ?_)
    obtain ⟨p, e1, hp⟩ := in_nat2 (hi := 6) (by omega) q1
    have hp7 : p < 7 := by omega
    have ec : s.toNatClampNeg = p := by rw [e1, i_cl (by omega)]
    rw [ec]
    unfold m_entry_b33
    have r52 : σ.1 52 p = aS (aI a 0 0 0) 52 p := (show σ.1 52 p = aS a 52 p from RM_7 h (by decide) hp7)
    rw [show rld σ 52 s = some (σ.1 52 p) from rld_n e1 (by rw [show rlen 52 = 7 by decide +kernel]; omega), r52]
    show WP (if xc0 .eq (aS (aI a 0 0 0) 52 p) = true then _ else _) _
    refine WP_if c0_eq (fun u0 => ?_) (fun u0 => ?_)
    · rw [if_pos (Or.inl u0)]
      exact thr2 0
    · by_cases q3 : aInR what 0 2 = true
      · rw [if_neg (fun y => y.elim u0 (fun z => by rw [q3] at z; exact absurd z (by decide)))]
        refine WP_in (lo' := 0) (hi' := 2) (by decide) (by decide) (fun _ => ?_) (fun y => by rw [q3] at y; exact absurd y (by decide))
        refine WP_if c0_eq (fun y => absurd (show (1 : Int32) = 0 from y) (by decide)) (fun _ => ?_)
        unfold m_entry_b54
        refine WP_if c0_eq (fun y => absurd (show (1 : Int32) = 0 from y) (by decide)) (fun _ => ?_)
        have r55 : σ.1 55 p = aBase (aI a 0 0 0) p := (show σ.1 55 p = aS a 55 p from RM_7 h (by decide) hp7)
        have r56 : σ.1 56 p = aLast (aI a 0 0 0) p := (show σ.1 56 p = aS a 56 p from RM_7 h (by decide) hp7)
        have l55 : rld σ 55 s = some (aBase (aI a 0 0 0) p) := by rw [← r55]; exact rld_n e1 (by rw [show rlen 55 = 7 by decide +kernel]; omega)
        have l56 : rld σ 56 s = some (aLast (aI a 0 0 0) p) := by rw [← r56]; exact rld_n e1 (by rw [show rlen 56 = 7 by decide +kernel]; omega)
        rw [l55, l56]
        show WP ((m_in i.toInt64 (aBase (aI a 0 0 0) p).toInt64 (aLast (aI a 0 0 0) p).toInt64).bind _) _
        have wl := RM_wl (RM_I (f := 0) (i := 0) (v := 0) h (by decide)) hp7
        refine WP_in rfl rfl (fun y => ?_) (fun y => ?_)
        · refine WP_if c0_eq (fun y => absurd (show (1 : Int32) = 0 from y) (by decide)) (fun _ => ?_)
          obtain ⟨y1, y2⟩ := in_bd y
          show WP (if xc2 .gt i (aBase (aI a 0 0 0) p) = true then _ else _) _
          have good : (i = aBase (aI a 0 0 0) p ∧ what = 0) ∨ aHas (aI a 0 0 0) p i = true → WP (m_entry_b97 σ s i what) (fun q => RM q.2 (aI a 0 0 0) u ∧ q.1 = if what = 0 then aTermAt (aI a 0 0 0) p i else if what = 1 then (aEnt (aI a 0 0 0) p i).2.1 else (aEnt (aI a 0 0 0) p i).2.2.1) := by
            intro hg
            unfold m_entry_b97 m_entry_b102 m_entry_b115
            refine WP_if c0_eq (fun y => absurd (show (1 : Int32) = 0 from y) (by decide)) (fun _ => ?_)
            refine WP_th h (fun τ hτ e0 => ?_)
            rw [e0]
            refine WP_if c0_le (fun _ => ?_) (fun y => absurd (by decide) y)
            unfold m_entry_b168
            have ent : ¬ what = 0 → ∃ j, j < (aLg (aI a 0 0 0) p).length ∧ i = aBase (aI a 0 0 0) p + 1 + Int32.ofNat j ∧ aEnt (aI a 0 0 0) p i = (aLg (aI a 0 0 0) p).getD j aE0 := by
              intro nw
              rcases hg with z | z
              · exact absurd z.2 nw
              · obtain ⟨j, j1, j2, j3, j4⟩ := aHas_i wl z
                refine ⟨j, j1, j2, ?_⟩
                unfold aEnt
                rw [j3]
                rfl
            refine WP_if c0_ne (fun w0 => ?_) (fun w0 => ?_)
            · rw [if_neg w0]
              obtain ⟨j, j1, j2, j3⟩ := ent w0
              have he := RM_ent hτ hp7 j1
              dsimp only at he
              rw [← j2] at he
              refine WP_if c2_ne (fun w1 => ?_) (fun w1 => ?_)
              · rw [if_neg w1, e1]
                refine WP_eq m_logOf_n ?_
                refine WP_ld rfl 3584 (by decide +kernel) (rLp_lt (n := i) hp7) (WP_some ⟨hτ, ?_⟩)
                rw [j3]
                exact he.2.2.1
              · rw [if_pos (Classical.not_not.mp w1), e1]
                refine WP_eq m_logOf_n ?_
                refine WP_ld rfl 3584 (by decide +kernel) (rLp_lt (n := i) hp7) (WP_some ⟨hτ, ?_⟩)
                rw [j3]
                exact he.2.1
            · rw [if_pos (Classical.not_not.mp w0), e1]
              refine WP_eq (M_termAt hτ hp7 (hg.imp (fun z => z.1) id)) (WP_some ⟨hτ, rfl⟩)
          refine WP_if c2_gt (fun g => ?_) (fun g => ?_)
          · have hh : aHas (aI a 0 0 0) p i = true := by
              unfold aHas
              rw [decide_eq_true g, decide_eq_true y2]
              rfl
            have ne : ¬ (i = aBase (aI a 0 0 0) p ∧ what = 0) := fun z => by
              rw [z.1, Int32.lt_iff_toInt_lt] at g
              omega
            rw [if_neg ne, if_pos hh]
            refine FW_ok aS_00 (WP_mono (good (Or.inr hh)) (fun q hq => ⟨hq.1, hq.2.trans ?_⟩))
            by_cases w0 : what = 0
            · rw [if_pos w0, if_pos w0]
              unfold aTermAt
              rw [if_neg (fun z => ne ⟨z, w0⟩), if_pos hh]
            · rw [if_neg w0, if_neg w0]
          · have ei : i = aBase (aI a 0 0 0) p := by
              rw [Int32.lt_iff_toInt_lt] at g
              rw [Int32.le_iff_toInt_le] at y1
              exact Int32.toInt_inj.mp (by omega)
            have hh : aHas (aI a 0 0 0) p i = false := by
              unfold aHas
              rw [decide_eq_false g]
              rfl
            refine WP_if c0_ne (fun w0 => ?_) (fun w0 => ?_)
            · rw [if_neg (fun z => w0 z.2), if_neg (by rw [hh]; decide)]
              exact thr 0
            · have w0 := Classical.not_not.mp w0
              rw [if_pos ⟨ei, w0⟩]
              refine FW_ok aS_00 (WP_mono (good (Or.inl ⟨ei, w0⟩)) (fun q hq => ⟨hq.1, hq.2.trans ?_⟩))
              rw [if_pos w0]
              unfold aTermAt
              rw [if_pos ei]
        · refine WP_if c0_eq (fun _ => ?_) (fun y => absurd rfl y)
          have nb : ¬ i = aBase (aI a 0 0 0) p := by
            intro z
            have : aInR i (aBase (aI a 0 0 0) p) (aLast (aI a 0 0 0) p) = true := by
              unfold aInR
              rw [decide_eq_true (show aBase (aI a 0 0 0) p ≤ i by rw [z]; exact Int32.le_refl _), decide_eq_true (show i ≤ aLast (aI a 0 0 0) p by
                rw [z, Int32.le_iff_toInt_le]
                obtain ⟨w1, w2, _⟩ := wl
                omega)]
              rfl
            rw [this] at y
            exact absurd y (by decide)
          have nh : aHas (aI a 0 0 0) p i = false := by
            cases z : aHas (aI a 0 0 0) p i with
            | false => rfl
            | true =>
              unfold aHas at z
              rw [Bool.and_eq_true_iff] at z
              have z1 := of_decide_eq_true z.1
              have z2 := of_decide_eq_true z.2
              have : aInR i (aBase (aI a 0 0 0) p) (aLast (aI a 0 0 0) p) = true := by
                unfold aInR
                rw [decide_eq_true (show aBase (aI a 0 0 0) p ≤ i by rw [Int32.le_iff_toInt_le]; rw [Int32.lt_iff_toInt_lt] at z1; omega), decide_eq_true z2]
                rfl
              rw [this] at y
              exact absurd y (by decide)
          rw [if_neg (fun z => nb z.1), if_neg (by rw [nh]; decide)]
          exact thr 0
      · have q3 := b_false q3
        rw [if_pos (Or.inr q3)]
        refine WP_in (lo' := 0) (hi' := 2) (by decide) (by decide) (fun y => by rw [q3] at y; exact absurd y (by decide)) (fun _ => ?_)
        refine WP_if c0_eq (fun _ => ?_) (fun y => absurd rfl y)
        exact thr2 0
  · have q1 := b_false q1
    rw [q1]
    simp only [Bool.not_false, if_true]
    refine WP_in (lo' := 0) (hi' := 6) (by decide) (by decide) (fun y => by rw [q1] at y; exact absurd y (by decide)) (fun _ => ?_)
    refine WP_if c0_eq (fun _ => ?_) (fun y => absurd rfl y)
    exact thr2 0
