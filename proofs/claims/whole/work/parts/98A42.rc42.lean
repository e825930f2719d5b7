/-! pieces begin anew -/
theorem off0_x {a : AA} {s : Nat} : ∀ n, ∃ X, aOff0 a s n = ((X, a.1.2), a.2) := by
  intro n
  induction n with
  | zero => exact ⟨a.1.1, rfl⟩
  | succ n ih =>
    obtain ⟨X, e⟩ := ih
    show ∃ X, aI (aOff0 a s n) 90 (7 * s + n) 0 = ((X, a.1.2), a.2)
    rw [e]
    exact ⟨_, rfl⟩
theorem off0_v {a : AA} {s : Nat} : ∀ n, (∀ p, p < n → aS (aOff0 a s n) 90 (7 * s + p) = 0) ∧ ∀ i, (∀ p, p < n → i ≠ 7 * s + p) → aS (aOff0 a s n) 90 i = aS a 90 i := by
  intro n
  induction n with
  | zero => exact ⟨fun p hp => absurd hp (Nat.not_lt_zero _), fun _ _ => rfl⟩
  | succ n ih =>
    have e : aOff0 a s (n + 1) = aI (aOff0 a s n) 90 (7 * s + n) 0 := rfl
    refine ⟨fun p hp => ?_, fun i hi => ?_⟩
    · rw [e, aS_I]
      by_cases q : p = n
      · rw [if_pos ⟨rfl, by rw [q]⟩]
      · rw [if_neg (fun z => q (by omega))]
        exact ih.1 p (by omega)
    · rw [e, aS_I, if_neg (fun z => hi n (by omega) z.2)]
      exact ih.2 i (fun p hp => hi p (by omega))
theorem RC_off0 {c : CS} {a : AA} {v : CV} {s : Nat} (h : RC c a v) : RC (csfill c 7 s 3 0) (aOff0 a s 7) v := by
  have hF : Ck [227] s c (csfill c 7 s 3 0) := PX_k (K := 7) (I := s) (fs := [3]) (PX_A (by decide)) (Or.inr rfl) (by decide)
  have e := (@AFr_off0 a s 7).1
  obtain ⟨v1, v2⟩ := @off0_v a s 7
  have hld : ∀ t, t < 7 → aS (aOff0 a s 7) 73 t = 3 → KLd (csfill c 7 s 3 0) (aOff0 a s 7) t := by
    intro t ht hr
    rw [e 73 (by decide)] at hr
    obtain ⟨k1, k2, k3⟩ := KLd_i.mp (h.2.2.2.1 t ht hr)
    refine KLd_i.mpr ⟨(csfill_f (by decide)).trans (k1.trans (e 82 (by decide) t).symm), (csfill_f (by decide)).trans (k2.trans (e 83 (by decide) t).symm), fun y hy p hp => ?_⟩
    by_cases q : y = (90, 3)
    · subst q
      show cI (csfill c 7 s 3 0) 7 t 3 p = aS (aOff0 a s 7) 90 (7 * t + p)
      by_cases z : t = s
      · subst z
        rw [v1 p hp]
        exact csfill_v hp
      · rw [v2 _ (fun p' hp' => by omega)]
        exact (if_neg (fun u => z u.2.1)).trans (k3 (90, 3) hy p hp)
    · obtain ⟨n1, n2⟩ := (by decide : ∀ y ∈ ldT, y ≠ (90, 3) → y.2 ≠ 3 ∧ y.1 ∉ [90]) y hy q
      rw [csfill_f n1, e _ n2]
      exact k3 y hy p hp
  obtain ⟨X, E⟩ := @off0_x a s 7
  rw [E] at e hld ⊢
  exact ⟨KSc_k hF (by decide) e (by decide) h.1, fr_k hF (by decide) e (by decide) h.2.1, hd_k hF (by decide) e (by decide) h.2.2.1, hld, rq_k hF (by decide) e (by decide) rfl h.2.2.2.2.1, bl_k hF (by decide) e (by decide) h.2.2.2.2.2.1, da_k hF (by decide) e (by decide) rfl h.2.2.2.2.2.2.1, lw_k hF (by decide) e (by decide) h.2.2.2.2.2.2.2.1, fun s hs => KG_fr hF (by decide) (h.2.2.2.2.2.2.2.2.1 s hs), fun s hs => KPg_fr hF (by decide) (h.2.2.2.2.2.2.2.2.2.1 s hs), fun s hs => KCh_fr hF (by decide) (h.2.2.2.2.2.2.2.2.2.2.1 s hs), fun s hs => KMc_fr hF (by decide) (h.2.2.2.2.2.2.2.2.2.2.2.1 s hs), pc_k hF (by decide) e (by decide) rfl h.2.2.2.2.2.2.2.2.2.2.2.2.1, cl_k hF (by decide) e (by decide) h.2.2.2.2.2.2.2.2.2.2.2.2.2.1, fun k hk => KDn_fr hF (by decide) (h.2.2.2.2.2.2.2.2.2.2.2.2.2.2.1 k hk), KAk_fr hF (by decide) h.2.2.2.2.2.2.2.2.2.2.2.2.2.2.2.1, KFc_fr hF (by decide) h.2.2.2.2.2.2.2.2.2.2.2.2.2.2.2.2.1, id_k hF (by decide) e (by decide) h.2.2.2.2.2.2.2.2.2.2.2.2.2.2.2.2.2.1, fun k hk => KIc_fr hF (by decide) (h.2.2.2.2.2.2.2.2.2.2.2.2.2.2.2.2.2.2.1 k hk), KLt_fr hF rfl (by decide) h.2.2.2.2.2.2.2.2.2.2.2.2.2.2.2.2.2.2.2.1, KRm_fr hF rfl (by decide) h.2.2.2.2.2.2.2.2.2.2.2.2.2.2.2.2.2.2.2.2.1, sh_k e (by decide) rfl rfl h.2.2.2.2.2.2.2.2.2.2.2.2.2.2.2.2.2.2.2.2.2.1, nw_k e (by decide) h.2.2.2.2.2.2.2.2.2.2.2.2.2.2.2.2.2.2.2.2.2.2⟩
