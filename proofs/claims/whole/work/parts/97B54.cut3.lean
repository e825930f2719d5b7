theorem getD_p {p : List Nat} {f i : Nat} (h : i < p.length) : (p ++ [f]).getD i 0 = p.getD i 0 := by
  rw [List.getD_eq_getElem?_getD, List.getElem?_append_left h, List.getD_eq_getElem?_getD]
theorem getD_l {p : List Nat} {f : Nat} : (p ++ [f]).getD p.length 0 = f := by
  rw [List.getD_eq_getElem?_getD, List.getElem?_append_right (Nat.le_refl _), Nat.sub_self]
  rfl
/-- the files from a place on are popped -/
theorem cut_loop {F : Nat} {a : AA} {u : AU} {s : Nat} {n : Int32} {Q : RS → Prop} (hs : s < 7) (hup : aS a 52 s = 1) (hzz : ¬ u.2 s)
    (fin : ∀ (pre rest : List Nat) (m : Bool) (τ : RS), pre ++ rest = aCh a s → RM τ (aChS (aRemoveAll a s rest.reverse) s pre) u → (∀ x ∈ rest, n ≤ (aFc a s x).1 2) → (m = true ↔ ∃ x ∈ rest, (aFc a s x).1 2 = n) → (∀ p f, pre = p ++ [f] → (aFc a s f).1 2 < n) → WP (m_cutLog_b97 F τ (Int32.ofNat s) n (aB m)) Q) :
    ∀ (N : Nat) (pre rest : List Nat) (m : Bool) (τ : RS), pre.length + 1 ≤ N → pre ++ rest = aCh a s → RM τ (aChS (aRemoveAll a s rest.reverse) s pre) u → (∀ x ∈ rest, n ≤ (aFc a s x).1 2) → (m = true ↔ ∃ x ∈ rest, (aFc a s x).1 2 = n) → WP (m_cutLog_b2 F N τ (Int32.ofNat s) n (aB m)) Q := by
  intro N
  induction N with
  | zero => intro pre rest m τ h1; omega
  | succ N ih =>
    intro pre rest m τ h1 h2 h3 h4 h5
    have fr := rmAll_ot (s := s) rest.reverse a
    have eup : aS (aChS (aRemoveAll a s rest.reverse) s pre) 52 s = 1 := (fr.1 52 (by decide) s).trans hup
    have ech : aCh (aChS (aRemoveAll a s rest.reverse) s pre) s = pre := if_pos rfl
    have hch := h3.2.2.2.2.2.2.2.1 s hs eup
    rw [ech] at hch
    have hat := h3.2.2.2.2.2.2.2.2.1 s hs eup
    rw [ech] at hat
    have hfc : ∀ g, (aFc (aChS (aRemoveAll a s rest.reverse) s pre) s g).1 2 = (aFc a s g).1 2 := fun g => (rmAll_fc rest.reverse a s g).1
    unfold m_cutLog_b2
    refine WP_ld rfl 7 (by decide +kernel) hs ?_
    unfold RCh at hch
    rw [hch.1]
    have hl12 := hch.2.1
    refine WP_if (p := pre = []) (by
      rw [c0_le, Int32.le_iff_toInt_le, Int32.toInt_ofNat_of_lt (by omega), i_0]
      constructor
      · intro y
        exact List.eq_nil_of_length_eq_zero (by omega)
      · intro y
        rw [y]
        exact Int.le_refl _) (fun q => ?_) (fun q => ?_)
    · exact fin pre rest m τ h2 h3 h4 h5 (fun p f y => absurd (q.symm.trans y) (by simp))
    · obtain ⟨p, f, hpf⟩ : ∃ p f, pre = p ++ [f] := ⟨pre.dropLast, pre.getLast q, (List.dropLast_concat_getLast q).symm⟩
      subst hpf
      have hlen : (p ++ [f]).length = p.length + 1 := by simp
      rw [hlen] at hch hl12 h1
      obtain ⟨y1, y2, y3, y4⟩ := hch.2.2 p.length (by omega)
      rw [getD_l] at y1 y2 y3 y4
      rw [hfc] at y4
      refine WP_ld rfl 7 (by decide +kernel) hs ?_
      rw [hch.1, show (12 : Int32) * Int32.ofNat s + Int32.ofNat (p.length + 1) - 1 = Int32.ofNat (12 * s + p.length) by
        rw [show (12 : Int32) = Int32.ofNat 12 from rfl, i_ma, i_pre (by omega)]
        rfl]
      refine WP_ld rfl 84 (by decide +kernel) (by omega) ?_
      rw [y4]
      refine WP_if c2_lt (fun q2 => ?_) (fun q2 => ?_)
      · exact fin _ rest m τ h2 h3 h4 h5 (fun p' f' e => by
          have := List.append_inj_right' e rfl
          rw [← List.cons.inj this |>.1]
          exact q2)
      · have q2 : n ≤ (aFc a s f).1 2 := Int32.not_lt.mp q2
        refine WP_ld rfl 7 (by decide +kernel) hs ?_
        rw [hch.1, i_pre (by omega), show p.length + 1 - 1 = p.length by omega]
        refine WP_st rfl 7 (by decide +kernel) hs ?_
        have hF1 : Fr [49, 50, 51] [] τ (setI τ 49 s (Int32.ofNat p.length)) := Fr_w Fr_I (by simp) (by simp)
        have h6 : RM (setI τ 49 s (Int32.ofNat p.length)) (aChS (aChS (aRemoveAll a s rest.reverse) s (p ++ [f])) s p) u := by
          refine RM_chx (RM_off h3 s) hs hF1 (fun t ht htn => ⟨setI_i htn, fun i hi => ⟨setI_f (by decide), setI_f (by decide)⟩⟩) (fun _ => ⟨setI_e, by omega, fun i hi => ?_⟩) (fun _ => ?_) (fun z => absurd z hzz)
          · obtain ⟨x1, x2, x3, x4⟩ := hch.2.2 i (by omega)
            rw [getD_p hi] at x1 x2 x3 x4
            rw [setI_f (by decide), setI_f (by decide)]
            exact ⟨x1, x2, x3, x4⟩
          · intro g hg k i hi hk e
            exact hat g (List.mem_append_left _ hg) k i hi hk e
        rw [aChS_chS] at h6
        refine WP_ld rfl 7 (by decide +kernel) hs ?_
        rw [setI_e, show (12 : Int32) * Int32.ofNat s + Int32.ofNat p.length = Int32.ofNat (12 * s + p.length) from i_ma]
        refine WP_ld rfl 84 (by decide +kernel) (by omega) ?_
        rw [setI_f (show (51 : Nat) ≠ 49 by decide), y4]
        have go : ∀ (m' : Bool), (m' = true ↔ ∃ x ∈ f :: rest, (aFc a s x).1 2 = n) → WP (m_cutLog_b72 F (m_cutLog_b2 F N) (setI τ 49 s (Int32.ofNat p.length)) (aB m') (Int32.ofNat s) n) Q := by
          intro m' hm'
          unfold m_cutLog_b72
          refine WP_ld rfl 7 (by decide +kernel) hs ?_
          rw [setI_e, show (12 : Int32) * Int32.ofNat s + Int32.ofNat p.length = Int32.ofNat (12 * s + p.length) from i_ma]
          refine WP_ld rfl 84 (by decide +kernel) (by omega) ?_
          rw [setI_f (show (50 : Nat) ≠ 49 by decide), y3]
          refine WP_call (M_removeFile h6 hs y2 (by omega) hzz) (fun τ2 h7 => ?_)
          rw [aRemove_ch, ← rmAll_app, ← List.reverse_cons] at h7
          refine ih p (f :: rest) m' τ2 (by omega) (by rw [← h2, List.append_assoc]; rfl) h7 (fun x hx => ?_) hm'
          rcases List.mem_cons.mp hx with rfl | hx
          · exact q2
          · exact h4 x hx
        refine WP_if c2_eq (fun q3 => ?_) (fun q3 => ?_)
        · exact go true ⟨fun _ => ⟨f, List.mem_cons_self, q3⟩, fun _ => rfl⟩
        · have hm : m = true ↔ ∃ x ∈ f :: rest, (aFc a s x).1 2 = n := by
            rw [h5]
            constructor
            · rintro ⟨x, hx, e⟩
              exact ⟨x, List.mem_cons_of_mem _ hx, e⟩
            · rintro ⟨x, hx, e⟩
              rcases List.mem_cons.mp hx with rfl | hx
              · exact absurd e q3
              · exact ⟨x, hx, e⟩
          cases m with
          | false =>
            refine WP_if c0_eq (fun _ => ?_) (fun y => absurd rfl y)
            exact go false hm
          | true =>
            refine WP_if c0_eq (fun y => absurd (show (1 : Int32) = 0 from y) (by decide)) (fun _ => ?_)
            exact go true hm
