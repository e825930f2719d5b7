/-! requests go, reads are answered -/
theorem RM_rqf {σ σ' : RS} {a : AA} {u : AU} {s : Nat} {P : AQ → Bool} (h : RM σ a u) (hs : s < 7) (hF : Fr [95] [] σ σ') (hP : ∀ w, w < 32 → σ'.1 95 (32 * s + w) = if w ∈ ((aRq a s).filter P).map (fun q => rqj (u.1.2 s) q % 32) then 1 else 0)
    (ho : ∀ t w, t ≠ s → w < 32 → σ'.1 95 (32 * t + w) = σ.1 95 (32 * t + w)) : RM σ' (aRqS a s ((aRq a s).filter P)) u := by
  have hrq : ∀ t, t < 7 → RRq (aAk a) σ' t (u.1.2 t) (aS a 151 t) (aRq (aRqS a s ((aRq a s).filter P)) t) := by
    intro t ht
    obtain ⟨b, e1, e1', e2, e3, e4, e5⟩ := h.2.2.2.2.2.2.2.2.2.2.2.2.1 t ht
    have e94 : σ'.1 94 t = Int32.ofNat b := by
      rw [hF.1 94 (by decide)]
      exact e2
    show RRq (aAk a) σ' t (u.1.2 t) (aS a 151 t) (if t = s then (aRq a s).filter P else aRq a t)
    have r1 : ∀ x ∈ (if t = s then (aRq a s).filter P else aRq a t), x ∈ aRq a t ∧ σ'.1 95 (32 * t + rqj (u.1.2 t) x % 32) = 1 := by
      intro x hx
      by_cases q : t = s
      · rw [if_pos q] at hx
        rw [q]
        refine ⟨(List.mem_filter.mp hx).1, ?_⟩
        rw [hP _ (Nat.mod_lt _ (by decide)), if_pos (List.mem_map.mpr ⟨x, hx, rfl⟩)]
      · rw [if_neg q] at hx
        refine ⟨hx, ?_⟩
        rw [ho t _ q (Nat.mod_lt _ (by decide))]
        exact (e4 x hx).2.2.2.1
    refine ⟨b, e1, e1', e94, ?_, fun x hx => ?_, fun w hw => ?_⟩
    · by_cases q : t = s
      · rw [if_pos q, ← q]
        exact List.Pairwise.sublist (List.Sublist.map _ List.filter_sublist) e3
      · rw [if_neg q]
        exact e3
    · obtain ⟨r2, r3⟩ := r1 x hx
      obtain ⟨y1, y2, y3, y4⟩ := e4 x r2
      refine ⟨y1, y2, y3, ?_⟩
      unfold RRq1 at y4 ⊢
      rw [hF.1 96 (by decide), hF.1 97 (by decide), hF.1 98 (by decide), hF.1 99 (by decide), hF.1 100 (by decide), hF.1 101 (by decide), hF.1 102 (by decide), hF.1 103 (by decide), hF.1 104 (by decide), hF.1 105 (by decide)]
      exact ⟨r3, y4.2⟩
    · by_cases q : t = s
      · rw [if_pos q, q]
        exact hP w hw
      · rw [if_neg q, ho t w q hw]
        exact e5 w hw
  exact ⟨RSc_fr hF (by decide) h.1, RWay_fr hF (by decide) h.2.1, fun s hs => RWt_fr hF (by decide) (h.2.2.1 s hs), fun l hl => RLt_fr hF (by decide) (h.2.2.2.1 l hl), fun s hs => RLog_fr hF (by decide) (h.2.2.2.2.1 s hs), fun s hs => RDk_fr hF (by decide) (h.2.2.2.2.2.1 s hs), fun s hs => RSl_fr hF (by decide) (h.2.2.2.2.2.2.1 s hs), fun s hs hu => RCh_fr hF (by decide) (h.2.2.2.2.2.2.2.1 s hs hu), fun s hs hu => RAt_fr hF (by decide) (h.2.2.2.2.2.2.2.2.1 s hs hu), fun s hs => RMc_fr hF (by decide) (h.2.2.2.2.2.2.2.2.2.1 s hs), fun s hs => RSh_fr hF (by decide) (h.2.2.2.2.2.2.2.2.2.2.1 s hs), fun s hs => RPc_fr hF (by decide) (h.2.2.2.2.2.2.2.2.2.2.2.1 s hs), hrq, RAk_fr hF (by decide) h.2.2.2.2.2.2.2.2.2.2.2.2.2.1, fun s hs => RWn_fr hF (by decide) (h.2.2.2.2.2.2.2.2.2.2.2.2.2.2.1 s hs), RTp_fr hF (by decide) h.2.2.2.2.2.2.2.2.2.2.2.2.2.2.2.1, RRe_fr hF (by decide) h.2.2.2.2.2.2.2.2.2.2.2.2.2.2.2.2.1, fun s hs => RDn_fr hF (by decide) (h.2.2.2.2.2.2.2.2.2.2.2.2.2.2.2.2.2.1 s hs), RSum_fr hF (by decide) h.2.2.2.2.2.2.2.2.2.2.2.2.2.2.2.2.2.2.1, h.2.2.2.2.2.2.2.2.2.2.2.2.2.2.2.2.2.2.2.1, h.2.2.2.2.2.2.2.2.2.2.2.2.2.2.2.2.2.2.2.2.1, h.2.2.2.2.2.2.2.2.2.2.2.2.2.2.2.2.2.2.2.2.2.1, h.2.2.2.2.2.2.2.2.2.2.2.2.2.2.2.2.2.2.2.2.2.2.1, h.2.2.2.2.2.2.2.2.2.2.2.2.2.2.2.2.2.2.2.2.2.2.2⟩
/-- a request is gone -/
theorem RM_rq1 {σ : RS} {a : AA} {u : AU} {s : Nat} {q : AQ} (h : RM σ a u) (hs : s < 7) (hq : q ∈ aRq a s) : RM (setI σ 95 (32 * s + rqj (u.1.2 s) q % 32) 0) (aRqS a s ((aRq a s).filter (fun x => !decide (x 0 = q 0)))) u := by
  obtain ⟨b, e1, e1', e2, e3, e4, e5⟩ := h.2.2.2.2.2.2.2.2.2.2.2.2.1 s hs
  obtain ⟨q1, q2, q3, q4⟩ := e4 q hq
  refine RM_rqf h hs Fr_I (fun w hw => ?_) (fun t w ht hw => setI_i (by have := Nat.mod_lt (rqj (u.1.2 s) q) (show 0 < 32 by decide); omega))
  have hm : w ∈ ((aRq a s).filter (fun x => !decide (x 0 = q 0))).map (fun q => rqj (u.1.2 s) q % 32) ↔ w ∈ (aRq a s).map (fun q => rqj (u.1.2 s) q % 32) ∧ w ≠ rqj (u.1.2 s) q % 32 := by
    constructor
    · intro hw'
      obtain ⟨x, hx, ex⟩ := List.mem_map.mp hw'
      obtain ⟨hx1, hx2⟩ := List.mem_filter.mp hx
      obtain ⟨x1, x2, x3, x4⟩ := e4 x hx1
      refine ⟨List.mem_map.mpr ⟨x, hx1, ex⟩, fun z => ?_⟩
      have hne : x 0 ≠ q 0 := by simpa using hx2
      have hjne : rqj (u.1.2 s) x ≠ rqj (u.1.2 s) q := fun y => hne (by rw [x1, q1, y])
      have ex : rqj (u.1.2 s) x % 32 = w := ex
      omega
    · rintro ⟨hw', hz⟩
      obtain ⟨x, hx, ex⟩ := List.mem_map.mp hw'
      refine List.mem_map.mpr ⟨x, List.mem_filter.mpr ⟨hx, ?_⟩, ex⟩
      have : x 0 ≠ q 0 := by
        intro y
        apply hz
        rw [← ex]
        unfold rqj
        rw [y]
      simpa using this
  by_cases z : w = rqj (u.1.2 s) q % 32
  · rw [z, setI_e, if_neg (fun y => (hm.mp (z ▸ y)).2 z)]
  · rw [setI_i (by omega), e5 w hw]
    by_cases y : w ∈ (aRq a s).map (fun q => rqj (u.1.2 s) q % 32)
    · rw [if_pos y, if_pos (hm.mpr ⟨y, z⟩)]
    · rw [if_neg y, if_neg (fun x => y (hm.mp x).1)]
theorem AFr_reply {a : AA} {s : Nat} {q : AQ} {w p : Int32} {bs : List Int32} : AFr [2, 21, 22] [0, 1] a (aReply a s q w p bs) := AFr_post
theorem rd_idx {b i : Nat} (h : 32 ≤ b + i) (hb : b + i < 2147483648) : Int32.ofNat (b + i) - 32 = Int32.ofNat (b + i - 32) := by
  rw [show (32 : Int32) = Int32.ofNat 32 from rfl, i_subn h]
theorem rd_int {b i : Nat} (hb : b + i < 2147483648) : (Int32.ofNat (b + i) - 32).toInt = (b + i : Nat) - 32 := by
  rw [i_subI (by rw [Int32.toInt_ofNat_of_lt (by omega), show (32 : Int32).toInt = 32 by decide]; omega) (by rw [Int32.toInt_ofNat_of_lt (by omega), show (32 : Int32).toInt = 32 by decide]; omega), Int32.toInt_ofNat_of_lt (by omega), show (32 : Int32).toInt = 32 by decide]
theorem M_answerReads {F : Nat} {σ : RS} {a : AA} {u : AU} {s : Nat} (hF : 400 ≤ F) (h : RM σ a u) (hs : s < 7) (hmx : (aS a 151 s).toInt < 2147483000) : WP (m_answerReads F σ (Int32.ofNat s)) (fun σ' => RM σ' (A_answerReads a s) u) := by
  obtain ⟨b, e1, e1', e2, e3, e4, e5⟩ := h.2.2.2.2.2.2.2.2.2.2.2.2.1 s hs
  have hbb : u.1.2 s + b < 2147483000 := by
    rw [e1, Int32.toInt_ofNat_of_lt e1'] at hmx
    omega
  generalize hc : aCommon (aS a 65 s) (fun p => aS a 91 (7 * s + p)) 7 = c
  have key : ∀ n i (τ : RS) (a' : AA) (R : List AQ), 34 ≤ i + n → i ≤ 32 → RM τ a' u → aS a' 151 s = Int32.ofNat (u.1.2 s + b) → (∀ q ∈ R, q ∈ aRq a' s ∧ b + i ≤ rqj (u.1.2 s) q + 32) → (∀ q ∈ aRq a' s, b + i ≤ rqj (u.1.2 s) q + 32 → q ∈ R) → (R.map (rqj (u.1.2 s))).Pairwise (· < ·) → WP (m_answerReads_b17 F n τ (Int32.ofNat s) c (Int32.ofNat (b + i) - 32)) (fun σ' => RM σ' (aReads s c R a') u) := by
    intro n
    induction n with
    | zero => intro i τ a' R h1 h2; omega
    | succ n ih =>
      intro i τ a' R h1 h2 hτ h151 hR1 hR2 hR3
      obtain ⟨b', f1, f1', f2, f3, f4, f5⟩ := hτ.2.2.2.2.2.2.2.2.2.2.2.2.1 s hs
      have hb' : b' = b := by
        rw [h151] at f1
        have := (i_eqi (by omega) (by omega)).mp f1
        omega
      subst hb'
      unfold m_answerReads_b17
      refine WP_ld rfl 7 (by decide +kernel) hs ?_
      rw [f2]
      have hi := rd_int (b := b') (i := i) (by omega)
      have next : ∀ (τ' : RS) (a2 : AA) (R' : List AQ), RM τ' a2 u → aS a2 151 s = Int32.ofNat (u.1.2 s + b') → i < 32 → (∀ q ∈ R', q ∈ aRq a2 s ∧ b' + (i + 1) ≤ rqj (u.1.2 s) q + 32) → (∀ q ∈ aRq a2 s, b' + (i + 1) ≤ rqj (u.1.2 s) q + 32 → q ∈ R') → (R'.map (rqj (u.1.2 s))).Pairwise (· < ·) → WP (m_answerReads_b119 F (m_answerReads_b17 F n) τ' (Int32.ofNat s) c (Int32.ofNat (b' + i) - 32)) (fun σ' => RM σ' (aReads s c R' a2) u) := by
        intro τ' a2 R' g1 g2 g0 g3 g4 g5
        unfold m_answerReads_b119
        rw [show Int32.ofNat (b' + i) - 32 + 1 = Int32.ofNat (b' + (i + 1)) - 32 by
          rw [← Nat.add_assoc, ← i_s, Int32.sub_eq_add_neg, Int32.sub_eq_add_neg, Int32.add_assoc, Int32.add_comm (-32), ← Int32.add_assoc]]
        exact ih (i + 1) τ' a2 R' (by omega) (by omega) g1 g2 g3 g4 g5
      refine WP_if (p := 32 ≤ i) (by
        rw [c2_ge, Int32.le_iff_toInt_le, hi, Int32.toInt_ofNat_of_lt (by omega)]
        omega) (fun y => ?_) (fun y => ?_)
      · have : i = 32 := by omega
        subst this
        have : R = [] := by
          cases R with
          | nil => rfl
          | cons q r =>
            obtain ⟨x1, x2⟩ := hR1 q List.mem_cons_self
            have := (f4 q x1).2.1
            omega
        rw [this]
        exact WP_some hτ
      · -- the numbers that stay when this one has passed
        have skip : (∀ q ∈ R, rqj (u.1.2 s) q + 32 ≠ b' + i) → WP (m_answerReads_b119 F (m_answerReads_b17 F n) τ (Int32.ofNat s) c (Int32.ofNat (b' + i) - 32)) (fun σ' => RM σ' (aReads s c R a') u) := by
          intro hn
          refine next τ a' R hτ h151 (by omega) (fun q hq => ⟨(hR1 q hq).1, ?_⟩) (fun q hq hb => hR2 q hq (by omega)) hR3
          have := (hR1 q hq).2
          have := hn q hq
          omega
        refine WP_if (p := b' + i < 32) (by
          rw [c0_lt, Int32.lt_iff_toInt_lt, hi, i_0]
          omega) (fun y2 => ?_) (fun y2 => ?_)
        · exact skip (fun q hq => by omega)
        · have hk : 32 ≤ b' + i := by omega
          rw [rd_idx hk (by omega)] at skip next ⊢
          have e31 : Int32.ofNat (b' + i - 32) &&& 31 = Int32.ofNat ((b' + i - 32) % 32) := i_and 5 (by decide)
          rw [e31, show (32 : Int32) * Int32.ofNat s + Int32.ofNat ((b' + i - 32) % 32) = Int32.ofNat (32 * s + (b' + i - 32) % 32) from i_ma]
          have hml := Nat.mod_lt (b' + i - 32) (show 0 < 32 by decide)
          have hwlt : 32 * s + (b' + i - 32) % 32 < 224 := by omega
          refine WP_ld rfl 224 (by decide +kernel) hwlt ?_
          rw [f5 _ hml]
          by_cases hin : (b' + i - 32) % 32 ∈ (aRq a' s).map (fun q => rqj (u.1.2 s) q % 32)
          · rw [if_pos hin]
            refine WP_if c0_eq (fun z => absurd z (by decide)) (fun _ => ?_)
            obtain ⟨q, hq, eq⟩ := List.mem_map.mp hin
            obtain ⟨q1, q2, q3, q4⟩ := f4 q hq
            have eq : rqj (u.1.2 s) q % 32 = (b' + i - 32) % 32 := eq
            have hj : rqj (u.1.2 s) q = b' + i - 32 := by omega
            have hqR := hR2 q hq (by omega)
            -- it is the first of those that are left
            obtain ⟨R', hR'⟩ : ∃ R', R = q :: R' := by
              cases hRR : R with
              | nil =>
                rw [hRR] at hqR
                exact absurd hqR List.not_mem_nil
              | cons x r =>
                rw [hRR] at hqR hR3
                rcases List.mem_cons.mp hqR with z | z
                · exact ⟨r, by rw [z]⟩
                · have hx := (hR1 x (by rw [hRR]; exact List.mem_cons_self)).2
                  have := (List.pairwise_cons.mp hR3).1 (rqj (u.1.2 s) q) (List.mem_map.mpr ⟨q, z, rfl⟩)
                  omega
            subst hR'
            have hR3' := (List.pairwise_cons.mp hR3)
            have hlater : ∀ x ∈ R', b' + (i + 1) ≤ rqj (u.1.2 s) x + 32 := by
              intro x hx
              have := hR3'.1 _ (List.mem_map.mpr ⟨x, hx, rfl⟩)
              omega
            have pass : aReads s c (q :: R') a' = aReads s c R' a' → WP (m_answerReads_b119 F (m_answerReads_b17 F n) τ (Int32.ofNat s) c (Int32.ofNat (b' + i - 32))) (fun σ' => RM σ' (aReads s c (q :: R') a') u) := by
              intro he
              rw [he]
              refine next τ a' R' hτ h151 (by omega) (fun x hx => ⟨(hR1 x (List.mem_cons_of_mem _ hx)).1, hlater x hx⟩) (fun x hx hb => ?_) hR3'.2
              rcases List.mem_cons.mp (hR2 x hx (by omega)) with z | z
              · rw [z] at hb
                omega
              · exact z
            have ew : 32 * s + rqj (u.1.2 s) q % 32 = 32 * s + (b' + i - 32) % 32 := by rw [hj]
            rw [ew] at q4
            obtain ⟨p1, p2, p3, p4, p5, p6, p7, p8, p9⟩ := q4
            refine WP_ld rfl 224 (by decide +kernel) hwlt ?_
            rw [p2]
            by_cases h6 : q 6 = -1
            · rw [decide_eq_true h6]
              refine WP_if c0_eq (fun _ => pass (if_neg (fun z => z.1 h6))) (fun z => absurd rfl z)
            · rw [decide_eq_false h6]
              refine WP_if c0_eq (fun z => absurd z (by decide)) (fun _ => ?_)
              refine WP_r7 hτ (by decide) hs ?_
              refine WP_ld rfl 224 (by decide +kernel) hwlt ?_
              rw [p3]
              refine WP_if c2_lt (fun z => pass (if_neg (fun y => i_nle.mpr z y.2.1))) (fun z => ?_)
              have z := i_nlt.mp z
              refine WP_ld rfl 224 (by decide +kernel) hwlt ?_
              rw [p5 h6]
              refine WP_if c2_ge (fun z2 => ?_) (fun z2 => pass (if_neg (fun y => z2 y.2.2)))
              have hgo : aReads s c (q :: R') a' = aReads s c R' (aReply (aRqS a' s ((aRq a' s).filter (fun x => !decide (x 0 = q 0)))) s q 0 (aS a' 76 s) (aQuery (aMc a' s) ((aAk a').getD (q 3).toNatClampNeg (fun _ => 0, [])))) := if_pos ⟨h6, z, z2⟩
              rw [hgo]
              refine WP_st rfl 224 (by decide +kernel) hwlt ?_
              have hdel := RM_rq1 hτ hs hq
              rw [ew] at hdel
              obtain ⟨k1, k2⟩ := p9 h6
              obtain ⟨k3, k4, k5, k6, k7, k8, k9⟩ := k2
              have hkm : (aAk a').getD (q 3).toNatClampNeg (fun _ => 0, []) ∈ aAk a' := by
                rw [List.getD_eq_getElem?_getD, List.getElem?_eq_getElem k1]
                exact List.getElem_mem k1
              refine WP_call (m_query_n (M := aMc a' s) (k := (aAk a').getD (q 3).toNatClampNeg (fun _ => 0, [])) (ap := aS a' 76 s) hF hs hwlt (hdel.2.2.2.2.2.2.2.2.2.1 s hs) ((hτ.2.2.2.2.2.2.2.2.2.2.2.2.2.1).2.2.1 _ hkm) ⟨k3, k4⟩ ((RM_7 (f := 76) hdel (by decide) hs).trans rfl) k5 k6 k7 k8 k9) (fun τ2 hτ2 => ?_)
              obtain ⟨t1, t2, t3, t4⟩ := hτ2
              have hr2 := RM_an hdel t1 (by decide)
              rw [t3]
              refine WP_call (M_postReply (q := q) (bs := aQuery (aMc a' s) ((aAk a').getD (q 3).toNatClampNeg (fun _ => 0, []))) hF hr2 hs hwlt (by rw [t1.1 100 (by decide)]; exact p6) (by rw [t1.1 101 (by decide)]; exact p7) p8 (fun _ => t4) (fun y => absurd rfl y) (aQuery_b (hdel.2.2.2.2.2.2.2.2.2.1 s hs).1)) (fun τ3 hτ3 => ?_)
              have fr := @AFr_reply (aRqS a' s ((aRq a' s).filter (fun x => !decide (x 0 = q 0)))) s q 0 (aS a' 76 s) (aQuery (aMc a' s) ((aAk a').getD (q 3).toNatClampNeg (fun _ => 0, [])))
              have erq : aRq (aReply (aRqS a' s ((aRq a' s).filter (fun x => !decide (x 0 = q 0)))) s q 0 (aS a' 76 s) (aQuery (aMc a' s) ((aAk a').getD (q 3).toNatClampNeg (fun _ => 0, [])))) s = (aRq a' s).filter (fun x => !decide (x 0 = q 0)) := by
                rw [fr.2.2.2.2.2.2.2.2.2.2.1 (by decide)]
                exact if_pos rfl
              refine next τ3 _ R' hτ3 (by rw [fr.1 151 (by decide)]; exact h151) (by omega) (fun x hx => ?_) (fun x hx hb => ?_) hR3'.2
              · have hx1 := (hR1 x (List.mem_cons_of_mem _ hx)).1
                have hl := hlater x hx
                refine ⟨?_, hl⟩
                rw [erq]
                refine List.mem_filter.mpr ⟨hx1, ?_⟩
                have : x 0 ≠ q 0 := by
                  intro y
                  have : rqj (u.1.2 s) x = rqj (u.1.2 s) q := by unfold rqj; rw [y]
                  omega
                simpa using this
              · rw [erq] at hx
                obtain ⟨hx1, hx2⟩ := List.mem_filter.mp hx
                rcases List.mem_cons.mp (hR2 x hx1 (by omega)) with z | z
                · rw [z] at hb
                  omega
                · exact z
          · rw [if_neg hin]
            refine WP_if c0_eq (fun _ => skip (fun q hq hz => hin ?_)) (fun z => absurd rfl z)
            refine List.mem_map.mpr ⟨q, (hR1 q hq).1, ?_⟩
            show rqj (u.1.2 s) q % 32 = _
            omega
  unfold m_answerReads m_answerReads_b0 A_answerReads
  rw [hc]
  have hcm := M_common (w := 2) hF h hs (by omega)
  have hcm : m_common F σ (Int32.ofNat s) 2 = some (c, σ) := by
    rw [show (2 : Int32) = Int32.ofNat 2 from rfl, hcm]
    rw [← hc]
    rfl
  refine WP_eq hcm ?_
  refine WP_ld rfl 7 (by decide +kernel) hs ?_
  rw [e2]
  exact key F 0 σ a (aRq a s) (by omega) (by omega) h e1 (fun q hq => ⟨hq, by have := (e4 q hq).2.2.1; omega⟩) (fun q hq _ => hq) e3
