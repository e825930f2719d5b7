/-! letters fly -/
theorem RSc_fr {W V : List Nat} {σ σ' : RS} {a : AA} (h : Fr W V σ σ') (q : fr0 scF W [28, 84] V = true) (z : RSc σ a) : RSc σ' a := by
  refine ⟨fun f hf i hi => ?_, ?_, fun s hs => ?_⟩
  · rw [h.1 f (fr0_1 q hf)]
    exact z.1 f hf i hi
  · rw [h.2 28 (fr0_2 q (by simp))]
    exact z.2.1
  · rw [h.2 84 (fr0_2 q (by simp))]
    exact z.2.2 s hs
theorem RWay_o {b : Nat} {σ σ' : RS} {K : List AK} {w : List AP} (h : SLf b σ σ') (q : 128 ≤ b ∨ σ.1 17 b = 0) (z : RWay K σ w) : RWay K σ' w := by
  have e : ∀ f, 17 ≤ f → f ≤ 20 → ∀ i, σ'.1 f i = σ.1 f i := fun f q1 q2 i => h.1 f i (by unfold sOf; omega)
  obtain ⟨z1, z2, ws, z3, z4, z5, z6⟩ := z
  refine ⟨(e 20 (by omega) (by omega) 0).trans z1, z2, ws, z3, z4, fun p hp => ?_, fun k hk => (e 17 (by omega) (by omega) k).trans (z6 k hk)⟩
  obtain ⟨y1, y2, y3, y4⟩ := z5 p hp
  refine ⟨y1, (e 18 (by omega) (by omega) _).trans y2, (e 19 (by omega) (by omega) _).trans y3, RLt_o h (fun x => ?_) y4⟩
  rcases q with q | q
  · omega
  · have := z6 p.1 y1
    rw [if_pos (List.mem_map.mpr ⟨p, hp, rfl⟩), x, q] at this
    exact absurd this (by decide)
theorem RM_sl {b : Nat} {σ σ' : RS} {a : AA} {u : AU} (h : RM σ a u) (hS : SLf b σ σ') (q : 128 ≤ b ∨ σ.1 17 b = 0) (q2 : b ≠ 353) (q3 : ∀ s, s < 7 → ∀ i, i < (aWt a s).length → 128 + 32 * s + i ≠ b) : RM σ' a u := by
  have hF := SLf_Fr hS
  exact ⟨RSc_fr hF (by decide) h.1, RWay_o hS q h.2.1, fun s hs => ⟨(hF.1 85 (by decide) ▸ (h.2.2.1 s hs).1), (h.2.2.1 s hs).2.1, fun i hi => RLt_o hS (q3 s hs i hi) ((h.2.2.1 s hs).2.2 i hi)⟩, fun l hl => RLt_o hS (fun z => q2 z.symm) (h.2.2.2.1 l hl), fun s hs => RLog_fr hF (by decide) (h.2.2.2.2.1 s hs), fun s hs => RDk_fr hF (by decide) (h.2.2.2.2.2.1 s hs), fun s hs => RSl_fr hF (by decide) (h.2.2.2.2.2.2.1 s hs), fun s hs hu => RCh_fr hF (by decide) (h.2.2.2.2.2.2.2.1 s hs hu), fun s hs hu => RAt_fr hF (by decide) (h.2.2.2.2.2.2.2.2.1 s hs hu), fun s hs => RMc_fr hF (by decide) (h.2.2.2.2.2.2.2.2.2.1 s hs), fun s hs => RSh_fr hF (by decide) (h.2.2.2.2.2.2.2.2.2.2.1 s hs), fun s hs => RPc_fr hF (by decide) (h.2.2.2.2.2.2.2.2.2.2.2.1 s hs), fun s hs => RRq_fr hF (by decide) (h.2.2.2.2.2.2.2.2.2.2.2.2.1 s hs), RAk_fr hF (by decide) h.2.2.2.2.2.2.2.2.2.2.2.2.2.1, fun s hs => RWn_fr hF (by decide) (h.2.2.2.2.2.2.2.2.2.2.2.2.2.2.1 s hs), RTp_fr hF (by decide) h.2.2.2.2.2.2.2.2.2.2.2.2.2.2.2.1, RRe_fr hF (by decide) h.2.2.2.2.2.2.2.2.2.2.2.2.2.2.2.2.1, fun s hs => RDn_fr hF (by decide) (h.2.2.2.2.2.2.2.2.2.2.2.2.2.2.2.2.2.1 s hs), RSum_fr hF (by decide) h.2.2.2.2.2.2.2.2.2.2.2.2.2.2.2.2.2.2.1, h.2.2.2.2.2.2.2.2.2.2.2.2.2.2.2.2.2.2.2.1, h.2.2.2.2.2.2.2.2.2.2.2.2.2.2.2.2.2.2.2.2.1, h.2.2.2.2.2.2.2.2.2.2.2.2.2.2.2.2.2.2.2.2.2.1, h.2.2.2.2.2.2.2.2.2.2.2.2.2.2.2.2.2.2.2.2.2.2.1, h.2.2.2.2.2.2.2.2.2.2.2.2.2.2.2.2.2.2.2.2.2.2.2⟩
theorem RM_out {σ σ' : RS} {a : AA} {u : AU} (h : RM σ a u) (hS : SLf 352 σ σ') : RM σ' a u := RM_sl h hS (Or.inl (by omega)) (by decide) (fun s hs i hi => by
  have := (h.2.2.1 s hs).2.1
  omega)
/-- letters beside the way stay -/
def Kp (K : List AK) (σ σ' : RS) : Prop := ∀ k l, 128 ≤ k → RLt K σ k l → RLt K σ' k l
theorem Kp_refl {K : List AK} {σ : RS} : Kp K σ σ := fun _ _ _ h => h
theorem Kp_t {K : List AK} {σ τ τ' : RS} (h : Kp K σ τ) (h' : Kp K τ τ') : Kp K σ τ' := fun k l q x => h' k l q (h k l q x)
theorem Kp_fr {K : List AK} {W V : List Nat} {σ σ' : RS} (h : Fr W V σ σ') (q : fr0 [6, 7, 8, 9, 10, 11, 12, 13, 14, 15] W [16] V = true) : Kp K σ σ' := fun _ _ _ x => RLt_fr h q x
/-- some number below n isn't among fewer than n -/
theorem pigeon : ∀ (n : Nat) (l : List Nat), l.Nodup → (∀ k, k < n → k ∈ l) → n ≤ l.length := by
  intro n
  induction n with
  | zero => exact fun _ _ _ => Nat.zero_le _
  | succ n ih =>
    intro l h1 h2
    have h3 := List.length_erase_of_mem (h2 n (by omega))
    have h4 := List.length_pos_of_mem (h2 n (by omega))
    have := ih (l.erase n) (h1.erase n) (fun k hk => (List.mem_erase_of_ne (by omega)).mpr (h2 k (by omega)))
    omega
theorem free_slot {K : List AK} {σ : RS} {w : List AP} (h : RWay K σ w) (hw : w.length < 128) : ∃ k, k < 128 ∧ σ.1 17 k = 0 := by
  obtain ⟨z1, z2, ws, z3, z4, z5, z6⟩ := h
  have : ¬ ∀ k, k < 128 → k ∈ ws.map Prod.fst := by
    intro y
    have := pigeon 128 _ z4 y
    rw [List.length_map] at this
    have e : ws.length = w.length := by rw [← z3, List.length_map]
    omega
  obtain ⟨k, hk⟩ := Classical.not_forall.mp this
  obtain ⟨hk1, hk2⟩ := Classical.not_imp.mp hk
  exact ⟨k, hk1, by rw [z6 k hk1, if_neg hk2]⟩
theorem aIns_map (time mk : Int32) (l : AL) (k : Nat) (ws : List (Nat × AP)) : ∃ ws' : List (Nat × AP), ws'.map Prod.snd = aIns (time, mk, l) (ws.map Prod.snd) ∧ (∀ p, p ∈ ws' ↔ p = (k, time, mk, l) ∨ p ∈ ws) ∧ (ws'.map Prod.fst).Perm (k :: ws.map Prod.fst) := by
  refine ⟨ws.takeWhile (fun y => decide (y.2.1 ≤ time)) ++ (k, time, mk, l) :: ws.dropWhile (fun y => decide (y.2.1 ≤ time)), ?_, fun p => ?_, ?_⟩
  · unfold aIns
    rw [List.map_append, List.map_cons, List.takeWhile_map, List.dropWhile_map]
    rfl
  · conv => rhs; rw [← List.takeWhile_append_dropWhile (p := fun (y : Nat × AP) => decide (y.2.1 ≤ time)) (l := ws)]
    simp only [List.mem_append, List.mem_cons]
    constructor
    · rintro (h | h | h)
      · exact Or.inr (Or.inl h)
      · exact Or.inl h
      · exact Or.inr (Or.inr h)
    · rintro (h | h | h)
      · exact Or.inr (Or.inl h)
      · exact Or.inl h
      · exact Or.inr (Or.inr h)
  · conv => rhs; rw [← List.takeWhile_append_dropWhile (p := fun (y : Nat × AP) => decide (y.2.1 ≤ time)) (l := ws)]
    rw [List.map_append, List.map_cons, List.map_append]
    exact List.perm_middle
theorem aIns_len {x : AP} {w : List AP} : (aIns x w).length = w.length + 1 := by
  unfold aIns
  conv => rhs; rw [← List.takeWhile_append_dropWhile (p := fun (y : AP) => decide (y.1 ≤ x.1)) (l := w)]
  rw [List.length_append, List.length_cons, List.length_append]
  omega
theorem flyL {F : Nat} {slot : Nat} {t : Int32} (P : RS → Prop) {σ : RS} (k0 : Nat) (hk0 : k0 < 128) (e0 : σ.1 17 k0 = 0)
    (hP : ∀ k, k < 128 → σ.1 17 k = 0 → WP (m_copyLetter F σ (Int32.ofNat slot) (Int32.ofNat k)) (fun p => P (setI (setI (setI (setI (setI (setI p 17 k 1) 18 k t) 19 k (p.1 2 0)) 2 0 (p.1 2 0 + 1)) 20 0 (p.1 20 0 + 1)) 21 0 (p.1 21 0 + 1)))) :
    ∀ n k, 129 ≤ k + n → k ≤ k0 → WP (m_fly_b23 F n σ (Int32.ofNat slot) t (Int32.ofNat k)) P := by
  intro n
  induction n with
  | zero => intro k h1 h2; omega
  | succ n ih =>
    intro k h1 h2
    unfold m_fly_b23
    refine WP_ld rfl 128 (by decide +kernel) (by omega) ?_
    refine WP_if c0_eq (fun q => ?_) (fun q => ?_)
    · refine WP_call (hP k (by omega) q) (fun p hp => ?_)
      refine WP_st rfl 128 (by decide +kernel) (by omega) ?_
      refine WP_st rfl 128 (by decide +kernel) (by omega) ?_
      refine WP_st rfl 128 (by decide +kernel) (by omega) ?_
      exact WP_some hp
    · rw [i_s]
      refine ih (k + 1) (by omega) ?_
      by_cases z : k = k0
      · rw [z] at q
        exact absurd e0 q
      · omega
theorem RWay_l {K : List AK} {σ : RS} {w : List AP} (h : RWay K σ w) : σ.1 20 0 = Int32.ofNat w.length ∧ w.length ≤ 128 := ⟨h.1, h.2.1⟩
theorem i_eqi {p q : Nat} (hp : p < 2147483648) (hq : q < 2147483648) : Int32.ofNat p = Int32.ofNat q ↔ p = q := by
  rw [← Int32.toInt_inj, Int32.toInt_ofNat_of_lt hp, Int32.toInt_ofNat_of_lt hq]
  omega
theorem M_fly {F : Nat} {σ : RS} {a : AA} {u : AU} {slot : Nat} {l : AL} {t : Int32} (hF : 400 ≤ F) (h : RM σ a u) (hs : slot < 354) (hl : RLt (aAk a) σ slot l) (hs2 : 128 ≤ slot ∨ ¬ σ.1 17 slot = 0) : WP (m_fly F σ (Int32.ofNat slot) t) (fun σ' => RM σ' (A_fly a l t) u ∧ Kp (aAk a) σ σ') := by
  unfold m_fly m_fly_b0 A_fly
  have hw := h.2.1
  rw [hw.1]
  refine WP_if (p := (aWay a).length ≠ 128) (by rw [c2_ne, show (128 : Int32) = Int32.ofNat 128 from rfl, i_eqi (by have := hw.2.1; omega) (by omega)]) (fun q => ?_) (fun q => ?_)
  · rw [if_neg (by have := hw.2.1; omega)]
    obtain ⟨k0, hk0, e0⟩ := free_slot hw (by have := hw.2.1; omega)
    refine flyL _ k0 hk0 e0 (fun k hk ek => ?_) F 0 (by omega) (Nat.zero_le _)
    have hne : slot ≠ k := by
      rcases hs2 with z | z
      · omega
      · intro y
        rw [y] at z
        exact z ek
    refine WP_mono (M_copyLetter hF hs (by omega) hne hl) (fun p hp => ?_)
    have hp1 : RM p a u := RM_sl h hp.1 (Or.inr ek) (by omega) (fun s hs i hi => by omega)
    have hF2 : Fr [17, 18, 19, 2, 20, 21] [] p (setI (setI (setI (setI (setI (setI p 17 k 1) 18 k t) 19 k (p.1 2 0)) 2 0 (p.1 2 0 + 1)) 20 0 (p.1 20 0 + 1)) 21 0 (p.1 21 0 + 1)) :=
      Fr_w (Fr_t (Fr_t (Fr_t (Fr_t (Fr_t Fr_I Fr_I) Fr_I) Fr_I) Fr_I) Fr_I) (by simp) (by simp)
    refine ⟨?_, fun k' l' hk' hl' => RLt_fr hF2 (by decide) (RLt_o hp.1 (by omega) hl')⟩
    have e2 : p.1 2 0 = aS a 2 0 := RM_0 hp1 (by decide)
    have e21 : p.1 21 0 = aS a 21 0 := RM_0 hp1 (by decide)
    have hsc : RSc (setI (setI (setI (setI (setI (setI p 17 k 1) 18 k t) 19 k (p.1 2 0)) 2 0 (p.1 2 0 + 1)) 20 0 (p.1 20 0 + 1)) 21 0 (p.1 21 0 + 1)) (aWayS (aAdd (aAdd a 2 0 1) 21 0 1) (aIns (t, aS a 2 0, l) (aWay a))) := by
      have s1 : RSc (setI (setI (setI p 17 k 1) 18 k t) 19 k (p.1 2 0)) a := RSc_fr (Fr_t (Fr_t Fr_I Fr_I) Fr_I) (by decide) hp1.1
      have s2 : RSc (setI (setI (setI (setI p 17 k 1) 18 k t) 19 k (p.1 2 0)) 2 0 (p.1 2 0 + 1)) (aAdd a 2 0 1) := by
        rw [e2]
        exact RSc_I (e2 ▸ s1)
      have s3 : RSc (setI (setI (setI (setI (setI p 17 k 1) 18 k t) 19 k (p.1 2 0)) 2 0 (p.1 2 0 + 1)) 20 0 (p.1 20 0 + 1)) (aAdd a 2 0 1) := RSc_fr Fr_I (by decide) s2
      have s4 := RSc_I (f := 21) (i := 0) (v := aS a 21 0 + 1) s3
      rw [e21]
      exact s4
    obtain ⟨z1, z2, ws, z3, z4, z5, z6⟩ := hp1.2.1
    obtain ⟨ws', y1, y2, y3⟩ := aIns_map t (aS a 2 0) l k ws
    have hk2 : k ∉ ws.map Prod.fst := by
      intro z
      have := z6 k hk
      rw [if_pos z, hp.1.1 17 k (by unfold sOf; omega), ek] at this
      exact absurd this (by decide)
    have hway : RWay (aAk a) (setI (setI (setI (setI (setI (setI p 17 k 1) 18 k t) 19 k (p.1 2 0)) 2 0 (p.1 2 0 + 1)) 20 0 (p.1 20 0 + 1)) 21 0 (p.1 21 0 + 1)) (aIns (t, aS a 2 0, l) (aWay a)) := by
      refine ⟨?_, ?_, ws', ?_, ?_, fun x hx => ?_, fun j hj => ?_⟩
      · rw [setI_f (by decide), setI_e, z1, aIns_len, i_s]
      · rw [aIns_len]
        have := hw.2.1
        omega
      · rw [y1, z3]
      · exact y3.nodup_iff.mpr (List.nodup_cons.mpr ⟨hk2, z4⟩)
      · rcases (y2 x).mp hx with rfl | hx
        · refine ⟨hk, ?_, ?_, RLt_fr hF2 (by decide) hp.2⟩
          · rw [setI_f (by decide), setI_f (by decide), setI_f (by decide), setI_f (by decide), setI_e]
          · rw [setI_f (by decide), setI_f (by decide), setI_f (by decide), setI_e, e2]
        · obtain ⟨x1, x2, x3, x4⟩ := z5 x hx
          have hne : x.1 ≠ k := fun z => hk2 (List.mem_map.mpr ⟨x, hx, z⟩)
          refine ⟨x1, ?_, ?_, RLt_fr hF2 (by decide) x4⟩
          · rw [setI_f (by decide), setI_f (by decide), setI_f (by decide), setI_f (by decide), setI_i hne, setI_f (by decide)]
            exact x2
          · rw [setI_f (by decide), setI_f (by decide), setI_f (by decide), setI_i hne, setI_f (by decide), setI_f (by decide)]
            exact x3
      · rw [setI_f (by decide), setI_f (by decide), setI_f (by decide), setI_f (by decide), setI_f (by decide)]
        by_cases q2 : j = k
        · rw [q2, setI_e, if_pos (y3.mem_iff.mpr List.mem_cons_self)]
        · rw [setI_i q2, z6 j hj]
          have : j ∈ ws'.map Prod.fst ↔ j ∈ ws.map Prod.fst := by
            rw [y3.mem_iff]
            simp only [List.mem_cons]
            exact ⟨fun z => z.resolve_left q2, Or.inr⟩
          by_cases q3 : j ∈ ws.map Prod.fst
          · rw [if_pos q3, if_pos (this.mpr q3)]
          · rw [if_neg q3, if_neg (fun z => q3 (this.mp z))]
    exact ⟨hsc, hway, fun s hs => RWt_fr hF2 (by decide) (hp1.2.2.1 s hs), fun l hl => RLt_fr hF2 (by decide) (hp1.2.2.2.1 l hl), fun s hs => RLog_fr hF2 (by decide) (hp1.2.2.2.2.1 s hs), fun s hs => RDk_fr hF2 (by decide) (hp1.2.2.2.2.2.1 s hs), fun s hs => RSl_fr hF2 (by decide) (hp1.2.2.2.2.2.2.1 s hs), fun s hs hu => RCh_fr hF2 (by decide) (hp1.2.2.2.2.2.2.2.1 s hs hu), fun s hs hu => RAt_fr hF2 (by decide) (hp1.2.2.2.2.2.2.2.2.1 s hs hu), fun s hs => RMc_fr hF2 (by decide) (hp1.2.2.2.2.2.2.2.2.2.1 s hs), fun s hs => RSh_fr hF2 (by decide) (hp1.2.2.2.2.2.2.2.2.2.2.1 s hs), fun s hs => RPc_fr hF2 (by decide) (hp1.2.2.2.2.2.2.2.2.2.2.2.1 s hs), fun s hs => RRq_fr hF2 (by decide) (hp1.2.2.2.2.2.2.2.2.2.2.2.2.1 s hs), RAk_fr hF2 (by decide) hp1.2.2.2.2.2.2.2.2.2.2.2.2.2.1, fun s hs => RWn_fr hF2 (by decide) (hp1.2.2.2.2.2.2.2.2.2.2.2.2.2.2.1 s hs), RTp_fr hF2 (by decide) hp1.2.2.2.2.2.2.2.2.2.2.2.2.2.2.2.1, RRe_fr hF2 (by decide) hp1.2.2.2.2.2.2.2.2.2.2.2.2.2.2.2.2.1, fun s hs => RDn_fr hF2 (by decide) (hp1.2.2.2.2.2.2.2.2.2.2.2.2.2.2.2.2.2.1 s hs), RSum_fr hF2 (by decide) hp1.2.2.2.2.2.2.2.2.2.2.2.2.2.2.2.2.2.2.1, hp1.2.2.2.2.2.2.2.2.2.2.2.2.2.2.2.2.2.2.2.1, hp1.2.2.2.2.2.2.2.2.2.2.2.2.2.2.2.2.2.2.2.2.1, hp1.2.2.2.2.2.2.2.2.2.2.2.2.2.2.2.2.2.2.2.2.2.1, hp1.2.2.2.2.2.2.2.2.2.2.2.2.2.2.2.2.2.2.2.2.2.2.1, hp1.2.2.2.2.2.2.2.2.2.2.2.2.2.2.2.2.2.2.2.2.2.2.2⟩
  · rw [if_pos (by omega)]
    rw [RM_0 (f := 22) h (by decide)]
    exact WP_some ⟨RM_I h (by decide), Kp_fr Fr_I (by decide)⟩
