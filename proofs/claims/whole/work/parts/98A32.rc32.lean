/-! requests that wait: one is dropped, one is looked for -/
theorem rq_mod {b : Nat} {x y : AQ} (h1 : qN x < b) (h2 : b ≤ qN x + 32) (h3 : qN y < b) (h4 : b ≤ qN y + 32) (h : qN x % 32 = qN y % 32) : qN x = qN y := by omega
theorem rq_split {rq : List AQ} {q : AQ} (hp : (rq.map qN).Pairwise (· < ·)) (hq : q ∈ rq) : (rq.filter (fun x => !decide (x 0 = q 0))).length + 1 = rq.length := by
  obtain ⟨p1, p2, e⟩ := List.append_of_mem hq
  subst e
  rw [List.map_append, List.map_cons, List.pairwise_append] at hp
  obtain ⟨h1, h2, h3⟩ := hp
  have h2 := List.pairwise_cons.mp h2
  have f1 : p1.filter (fun x => !decide (x 0 = q 0)) = p1 := by
    rw [List.filter_eq_self]
    intro x hx
    have := h3 (qN x) (List.mem_map.mpr ⟨x, hx, rfl⟩) (qN q) List.mem_cons_self
    have hne : ¬ x 0 = q 0 := fun z => by
      unfold qN at this
      rw [z] at this
      omega
    rw [decide_eq_false hne]
    rfl
  have f2 : p2.filter (fun x => !decide (x 0 = q 0)) = p2 := by
    rw [List.filter_eq_self]
    intro x hx
    have := h2.1 (qN x) (List.mem_map.mpr ⟨x, hx, rfl⟩)
    have hne : ¬ x 0 = q 0 := fun z => by
      unfold qN at this
      rw [z] at this
      omega
    rw [decide_eq_false hne]
    rfl
  have f3 : (!decide (q 0 = q 0)) = false := by rw [decide_eq_true rfl]; rfl
  rw [List.filter_append, List.filter_cons, f1, f2, f3, if_neg (by decide), List.length_append, List.length_append, List.length_cons]
  omega
theorem K_drop1 {c : CS} {a : AA} {v : CV} {s : Nat} {q : AQ} (h : RC c a v) (hs : s < 7) (hu : aS a 52 s = 1) (hq : q ∈ aRq a s) : WP (k_Requests_drop c s (Int32.ofNat (qN q % 32))) (fun c' => RC c' (aRqS a s ((aRq a s).filter (fun x => !decide (x 0 = q 0)))) v ∧ ∀ cl i f, ¬ (cl = 12 ∧ i = s ∧ f ∈ [0, 8]) → Sm c c' cl i f) := by
  obtain ⟨b, b1, b2, b3, b4, b5, b6⟩ := h.2.2.2.2.1 s hs hu
  have hw : qN q % 32 < 32 := Nat.mod_lt _ (by omega)
  have hmem : qN q % 32 ∈ (aRq a s).map (fun x => qN x % 32) := List.mem_map.mpr ⟨q, hq, rfl⟩
  have hlen := rq_split b3 hq
  unfold k_Requests_drop k_Requests_drop_b0 k_Requests_drop_b26
  refine WP_eq (crd_n rfl (show qN q % 32 < 32 from hw) (by omega)) ?_
  rw [b5 _ hw, if_pos hmem, if_neg (by decide), show (0 : Int32) &&& 1 = 0 by decide]
  refine WP_eq (cwr_n rfl (show qN q % 32 < 32 from hw) (by omega)) ?_
  rw [csI_f (by decide), b6]
  have P : PX 12 s [0, 8] c (csI (csI c 12 s 0 (qN q % 32) 0) 12 s 8 0 (Int32.ofNat (aRq a s).length - 1)) := PX_t (PX_I (by decide)) (PX_I (by decide))
  refine WP_b (WP_some ⟨RC_rq h (PX_k P (Or.inr rfl) (by decide)) rfl (fun _ => ?_), P.1⟩)
  refine ⟨b, b1, b2, ?_, fun x hx => ?_, fun u hu2 => ?_, ?_⟩
  · exact b3.sublist (List.filter_sublist.map _)
  · obtain ⟨y1, y2, y3, y4⟩ := b4 x (List.mem_filter.mp hx).1
    refine ⟨y1, y2, y3, ?_⟩
    have o : ∀ f j, f ≠ 0 → f ≠ 8 → cI (csI (csI c 12 s 0 (qN q % 32) 0) 12 s 8 0 (Int32.ofNat (aRq a s).length - 1)) 12 s f j = cI c 12 s f j := fun f j n1 n2 => (csI_f n2).trans (csI_f n1)
    unfold KRq1 at y4 ⊢
    rw [o 1 _ (by decide) (by decide), o 2 _ (by decide) (by decide), o 3 _ (by decide) (by decide), o 4 _ (by decide) (by decide), o 5 _ (by decide) (by decide), o 6 _ (by decide) (by decide)]
    exact y4
  · rw [csI_f (by decide)]
    obtain ⟨q1, q2, q3, _⟩ := b4 q hq
    by_cases z : u = qN q % 32
    · rw [z, csI_e, if_neg]
      intro k
      obtain ⟨x, hx, e⟩ := List.mem_map.mp k
      obtain ⟨x1, x2⟩ := List.mem_filter.mp hx
      obtain ⟨y1, y2, y3, _⟩ := b4 x x1
      have := rq_mod y2 y3 q2 q3 e
      rw [y1, q1, this] at x2
      simp at x2
    · rw [csI_j z, b5 u hu2]
      by_cases k : u ∈ (aRq a s).map (fun x => qN x % 32)
      · rw [if_pos k, if_pos]
        obtain ⟨x, hx, e⟩ := List.mem_map.mp k
        refine List.mem_map.mpr ⟨x, List.mem_filter.mpr ⟨hx, ?_⟩, e⟩
        have hne : ¬ x 0 = q 0 := fun y => z (by
          rw [← e]
          unfold qN
          rw [y])
        rw [decide_eq_false hne]
        rfl
      · rw [if_neg k, if_neg]
        intro y
        obtain ⟨x, hx, e⟩ := List.mem_map.mp y
        exact k (List.mem_map.mpr ⟨x, (List.mem_filter.mp hx).1, e⟩)
  · rw [csI_e, ← hlen, i_pre (by omega)]
    rfl
/-- who waits for an entry -/
def wtF (n : Int32) (q : AQ) : Bool := decide (q 6 = -1) && decide (q 4 = n)
theorem K_waits {F : Nat} {c : CS} {a : AA} {v : CV} {s : Nat} {n : Int32} (hF : 34 ≤ F) (h : RC c a v) (hs : s < 7) (hu : aS a 52 s = 1) (hun : ∀ x ∈ aRq a s, ∀ y ∈ aRq a s, wtF n x = true → wtF n y = true → x = y) : k_Requests_waitsFor F c s n = some (match (aRq a s).find? (wtF n) with
    | none => -1
    | some q => Int32.ofNat (qN q % 32)) := by
  obtain ⟨b, b1, b2, b3, b4, b5, b6⟩ := h.2.2.2.2.1 s hs hu
  have hlen : (aRq a s).length ≤ 32 := by
    have hn : ((aRq a s).map (fun x => qN x % 32)).Nodup := by
      rw [List.nodup_iff_pairwise_ne, List.pairwise_map]
      have hp : (aRq a s).Pairwise (fun x y => qN x < qN y) := List.pairwise_map.mp b3
      refine (hp.imp_of_mem ?_)
      intro x y hx hy hxy e
      obtain ⟨_, y2, y3, _⟩ := b4 x hx
      obtain ⟨_, z2, z3, _⟩ := b4 y hy
      have := rq_mod y2 y3 z2 z3 e
      omega
    have hs2 : ((aRq a s).map (fun x => qN x % 32)) ⊆ List.range 32 := by
      intro u hu2
      obtain ⟨x, _, e⟩ := List.mem_map.mp hu2
      rw [List.mem_range, ← e]
      exact Nat.mod_lt _ (by omega)
    have := List.Nodup.length_le_of_subset hn hs2
    rw [List.length_map, List.length_range] at this
    exact this
  unfold k_Requests_waitsFor k_Requests_waitsFor_b0
  have slot : ∀ w, w < 32 → w ∈ (aRq a s).map (fun x => qN x % 32) → ∃ x ∈ aRq a s, qN x % 32 = w ∧ cI c 12 s 4 w = x 4 ∧ cI c 12 s 6 w = x 6 := by
    intro w hw k
    obtain ⟨x, hx, e⟩ := List.mem_map.mp k
    obtain ⟨_, _, _, y4⟩ := b4 x hx
    rw [e] at y4
    exact ⟨x, hx, e, y4.2.2.2.1, y4.2.2.2.2.2⟩
  have key : ∀ N w, 33 ≤ w + N → w ≤ 32 → (∀ x ∈ aRq a s, wtF n x = true → w ≤ qN x % 32) → k_Requests_waitsFor_b2 F N c s n (Int32.ofNat w) = some (match (aRq a s).find? (wtF n) with
    | none => -1
    | some q => Int32.ofNat (qN q % 32)) := by
    intro N
    induction N with
    | zero => intro w h1 h2; omega
    | succ N ih =>
      intro w h1 h2 h3
      have none0 : (∀ x ∈ aRq a s, ¬ wtF n x = true) → (aRq a s).find? (wtF n) = none := fun y => List.find?_eq_none.mpr y
      unfold k_Requests_waitsFor_b2
      dsimp only
      unfold k_Requests_waitsFor_b52 k_Requests_waitsFor_b46
      rw [b6]
      by_cases q0 : xc0 .le (Int32.ofNat (aRq a s).length) = true
      · rw [if_pos q0]
        have z := c0_le.mp q0
        rw [Int32.le_iff_toInt_le, Int32.toInt_ofNat_of_lt (by omega), i_0] at z
        have e0 : aRq a s = [] := List.eq_nil_of_length_eq_zero (by omega)
        rw [none0 (fun x hx => by rw [e0] at hx; exact absurd hx List.not_mem_nil)]
      · rw [if_neg q0]
        by_cases q1 : w = 32
        · subst q1
          rw [if_pos (by decide), none0 (fun x hx y => by
            have := h3 x hx y
            have := Nat.mod_lt (qN x) (show 0 < 32 by omega)
            omega)]
        · have hw : w < 32 := by omega
          rw [if_neg (fun y => by
            rw [show (32 : Int32) = Int32.ofNat 32 from rfl] at y
            have := (i_gei (by omega) (by omega)).mp y
            omega), crd_n rfl (show w < 32 from hw) (by omega), crd_n rfl (show w < 32 from hw) (by omega), crd_n rfl (show w < 32 from hw) (by omega)]
          have next : (∀ x ∈ aRq a s, wtF n x = true → qN x % 32 ≠ w) → k_Requests_waitsFor_b2 F N c s n (Int32.ofNat w + 1) = some (match (aRq a s).find? (wtF n) with
              | none => -1
              | some q => Int32.ofNat (qN q % 32)) := by
            intro hn
            rw [i_s]
            refine ih (w + 1) (by omega) (by omega) (fun x hx y => ?_)
            have := h3 x hx y
            have := hn x hx y
            omega
          show (if xc0 .eq (cI c 12 s 0 w) = true then _ else if xc2 .ne (cI c 12 s 6 w) (-1) = true then _ else if xc2 .ne (cI c 12 s 4 w) n = true then _ else _) = _
          rw [b5 w hw]
          by_cases k : w ∈ (aRq a s).map (fun x => qN x % 32)
          · rw [if_pos k, if_neg (by decide)]
            obtain ⟨x, hx, e, e4, e6⟩ := slot w hw k
            have uniq : ∀ y ∈ aRq a s, qN y % 32 = w → y 0 = x 0 := by
              intro y hy ey
              obtain ⟨y1, y2, y3, _⟩ := b4 y hy
              obtain ⟨x1, x2, x3, _⟩ := b4 x hx
              rw [y1, x1, rq_mod y2 y3 x2 x3 (ey.trans e.symm)]
            have uniq2 : ∀ y ∈ aRq a s, qN y % 32 = w → y 6 = x 6 ∧ y 4 = x 4 := by
              intro y hy ey
              obtain ⟨_, _, _, y4⟩ := b4 y hy
              rw [ey] at y4
              exact ⟨y4.2.2.2.2.2.symm.trans e6, y4.2.2.2.1.symm.trans e4⟩
            rw [e6, e4]
            by_cases k6 : x 6 = -1
            · rw [if_neg (fun y => c2_ne.mp y k6)]
              by_cases k4 : x 4 = n
              · rw [if_neg (fun y => c2_ne.mp y k4)]
                have hx2 : wtF n x = true := by
                  unfold wtF
                  rw [decide_eq_true k6, decide_eq_true k4]
                  rfl
                have ef : (aRq a s).find? (wtF n) = some x := by
                  cases hf : (aRq a s).find? (wtF n) with
                  | none => exact absurd hx2 (List.find?_eq_none.mp hf x hx)
                  | some y => rw [hun y (List.mem_of_find?_eq_some hf) x hx (List.find?_some hf) hx2]
                rw [ef]
                show some (Int32.ofNat w) = some (Int32.ofNat (qN x % 32))
                rw [e]
              · rw [if_pos (c2_ne.mpr k4)]
                refine next (fun y hy hy2 ey => k4 ?_)
                unfold wtF at hy2
                rw [Bool.and_eq_true] at hy2
                rw [← (uniq2 y hy ey).2]
                exact of_decide_eq_true hy2.2
            · rw [if_pos (c2_ne.mpr k6)]
              refine next (fun y hy hy2 ey => k6 ?_)
              unfold wtF at hy2
              rw [Bool.and_eq_true] at hy2
              rw [← (uniq2 y hy ey).1]
              exact of_decide_eq_true hy2.1
          · rw [if_neg k, if_pos (by decide)]
            exact next (fun y hy _ ey => k (List.mem_map.mpr ⟨y, hy, ey⟩))
  exact key F 0 (by omega) (by omega) (fun _ _ _ => Nat.zero_le _)
