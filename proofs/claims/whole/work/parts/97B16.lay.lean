/-! bytes are laid behind a file's last -/
def dB (τ : RS) (k y : Nat) : Int32 := rB (τ.2 36) (14000 * k + y)
theorem dB_lay {τ : RS} {k y0 y : Nat} {v : Int32} : dB (setL τ 36 ((14000 * k + y0) / 8) (rlay (τ.2 36 ((14000 * k + y0) / 8)) ((14000 * k + y0) % 8) v)) k y = if y = y0 then v.toInt8.toInt32 else dB τ k y := by
  unfold dB
  rw [setL_w, rB_lay]
  by_cases q : y = y0
  · rw [if_pos q, if_pos (by omega)]
  · rw [if_neg q, if_neg (by omega)]
/-- a file got bytes behind its S-th -/
def Wr (k : Nat) (σ τ : RS) (S : Nat) (l : List (Option Int32)) : Prop := SLd k σ τ ∧ Fr [37] [36] σ τ ∧ τ.1 37 k = Int32.ofNat (S + l.length) ∧ (∀ y, y < S → dB τ k y = dB σ k y) ∧ ∀ y v, l[y]? = some (some v) → dB τ k (S + y) = v
theorem Wr_0 {k : Nat} {σ : RS} {S : Nat} (h : σ.1 37 k = Int32.ofNat S) : Wr k σ σ S [] := ⟨SLd_refl, ⟨fun _ _ => rfl, fun _ _ => rfl⟩, h, fun _ _ => rfl, fun y v hv => absurd hv (by simp)⟩
theorem get_app {α : Type} {l m : List α} {y : Nat} {v : α} (h : (l ++ m)[y]? = some v) : (y < l.length ∧ l[y]? = some v) ∨ (l.length ≤ y ∧ m[y - l.length]? = some v) := by
  by_cases q : y < l.length
  · rw [List.getElem?_append_left q] at h
    exact Or.inl ⟨q, h⟩
  · rw [List.getElem?_append_right (by omega)] at h
    exact Or.inr ⟨by omega, h⟩
theorem Wr_lay {k : Nat} {σ τ : RS} {S : Nat} {l : List (Option Int32)} {v : Int32} (hk : k < 224) (h : Wr k σ τ S l) (hS : S + l.length + 4 ≤ 14000) : WP (m_lay τ (Int32.ofNat k) v) (fun τ' => Wr k σ τ' S (l ++ (a4 v).map some)) := by
  obtain ⟨w1, w2, w3, w4, w5⟩ := h
  unfold m_lay
  refine WP_ld rfl 224 (by decide +kernel) hk ?_
  rw [w3, show (14000 : Int32) * Int32.ofNat k + Int32.ofNat (S + l.length) = Int32.ofNat (14000 * k + (S + l.length)) from i_ma, show Int32.ofNat (14000 * k + (S + l.length)) + 1 = Int32.ofNat (14000 * k + (S + l.length + 1)) from i_s, show Int32.ofNat (14000 * k + (S + l.length)) + 2 = Int32.ofNat (14000 * k + (S + l.length + 2)) from i_ad, show Int32.ofNat (14000 * k + (S + l.length)) + 3 = Int32.ofNat (14000 * k + (S + l.length + 3)) from i_ad]
  refine WP_eq (m_layDisk_n (by omega)) ?_
  refine WP_eq (m_layDisk_n (by omega)) ?_
  refine WP_eq (m_layDisk_n (by omega)) ?_
  refine WP_eq (m_layDisk_n (by omega)) ?_
  have b1 : ∀ y, dB (setL τ 36 ((14000 * k + (S + l.length)) / 8) (rlay (τ.2 36 ((14000 * k + (S + l.length)) / 8)) ((14000 * k + (S + l.length)) % 8) ((v >>> (24 &&& 31)).toInt8.toInt32))) k y = if y = S + l.length then aLow8 (v >>> 24) else dB τ k y := fun y => by
    rw [dB_lay]
    by_cases q : y = S + l.length
    · rw [if_pos q, if_pos q]
      exact i_b8
    · rw [if_neg q, if_neg q]
  have s1 : SLd k σ (setL τ 36 ((14000 * k + (S + l.length)) / 8) (rlay (τ.2 36 ((14000 * k + (S + l.length)) / 8)) ((14000 * k + (S + l.length)) % 8) ((v >>> (24 &&& 31)).toInt8.toInt32))) := SLd_L w1 (by omega)
  have f1 : Fr [37] [36] σ (setL τ 36 ((14000 * k + (S + l.length)) / 8) (rlay (τ.2 36 ((14000 * k + (S + l.length)) / 8)) ((14000 * k + (S + l.length)) % 8) ((v >>> (24 &&& 31)).toInt8.toInt32))) := Fr_w (Fr_t w2 Fr_L) (by simp) (by simp)
  have z1 : (setL τ 36 ((14000 * k + (S + l.length)) / 8) (rlay (τ.2 36 ((14000 * k + (S + l.length)) / 8)) ((14000 * k + (S + l.length)) % 8) ((v >>> (24 &&& 31)).toInt8.toInt32))).1 37 k = Int32.ofNat (S + l.length) := w3
  generalize setL τ 36 ((14000 * k + (S + l.length)) / 8) (rlay (τ.2 36 ((14000 * k + (S + l.length)) / 8)) ((14000 * k + (S + l.length)) % 8) ((v >>> (24 &&& 31)).toInt8.toInt32)) = τ1 at b1 s1 f1 z1
  have b2 : ∀ y, dB (setL τ1 36 ((14000 * k + (S + l.length + 1)) / 8) (rlay (τ1.2 36 ((14000 * k + (S + l.length + 1)) / 8)) ((14000 * k + (S + l.length + 1)) % 8) ((v >>> (16 &&& 31)).toInt8.toInt32))) k y = if y = S + l.length + 1 then aLow8 (v >>> 16) else dB τ1 k y := fun y => by
    rw [dB_lay]
    by_cases q : y = S + l.length + 1
    · rw [if_pos q, if_pos q]
      exact i_b8
    · rw [if_neg q, if_neg q]
  have s2 : SLd k σ (setL τ1 36 ((14000 * k + (S + l.length + 1)) / 8) (rlay (τ1.2 36 ((14000 * k + (S + l.length + 1)) / 8)) ((14000 * k + (S + l.length + 1)) % 8) ((v >>> (16 &&& 31)).toInt8.toInt32))) := SLd_L s1 (by omega)
  have f2 : Fr [37] [36] σ (setL τ1 36 ((14000 * k + (S + l.length + 1)) / 8) (rlay (τ1.2 36 ((14000 * k + (S + l.length + 1)) / 8)) ((14000 * k + (S + l.length + 1)) % 8) ((v >>> (16 &&& 31)).toInt8.toInt32))) := Fr_w (Fr_t f1 Fr_L) (by simp) (by simp)
  have z2 : (setL τ1 36 ((14000 * k + (S + l.length + 1)) / 8) (rlay (τ1.2 36 ((14000 * k + (S + l.length + 1)) / 8)) ((14000 * k + (S + l.length + 1)) % 8) ((v >>> (16 &&& 31)).toInt8.toInt32))).1 37 k = Int32.ofNat (S + l.length) := z1
  generalize setL τ1 36 ((14000 * k + (S + l.length + 1)) / 8) (rlay (τ1.2 36 ((14000 * k + (S + l.length + 1)) / 8)) ((14000 * k + (S + l.length + 1)) % 8) ((v >>> (16 &&& 31)).toInt8.toInt32)) = τ2 at b2 s2 f2 z2
  have b3 : ∀ y, dB (setL τ2 36 ((14000 * k + (S + l.length + 2)) / 8) (rlay (τ2.2 36 ((14000 * k + (S + l.length + 2)) / 8)) ((14000 * k + (S + l.length + 2)) % 8) ((v >>> (8 &&& 31)).toInt8.toInt32))) k y = if y = S + l.length + 2 then aLow8 (v >>> 8) else dB τ2 k y := fun y => by
    rw [dB_lay]
    by_cases q : y = S + l.length + 2
    · rw [if_pos q, if_pos q]
      exact i_b8
    · rw [if_neg q, if_neg q]
  have s3 : SLd k σ (setL τ2 36 ((14000 * k + (S + l.length + 2)) / 8) (rlay (τ2.2 36 ((14000 * k + (S + l.length + 2)) / 8)) ((14000 * k + (S + l.length + 2)) % 8) ((v >>> (8 &&& 31)).toInt8.toInt32))) := SLd_L s2 (by omega)
  have f3 : Fr [37] [36] σ (setL τ2 36 ((14000 * k + (S + l.length + 2)) / 8) (rlay (τ2.2 36 ((14000 * k + (S + l.length + 2)) / 8)) ((14000 * k + (S + l.length + 2)) % 8) ((v >>> (8 &&& 31)).toInt8.toInt32))) := Fr_w (Fr_t f2 Fr_L) (by simp) (by simp)
  have z3 : (setL τ2 36 ((14000 * k + (S + l.length + 2)) / 8) (rlay (τ2.2 36 ((14000 * k + (S + l.length + 2)) / 8)) ((14000 * k + (S + l.length + 2)) % 8) ((v >>> (8 &&& 31)).toInt8.toInt32))).1 37 k = Int32.ofNat (S + l.length) := z2
  generalize setL τ2 36 ((14000 * k + (S + l.length + 2)) / 8) (rlay (τ2.2 36 ((14000 * k + (S + l.length + 2)) / 8)) ((14000 * k + (S + l.length + 2)) % 8) ((v >>> (8 &&& 31)).toInt8.toInt32)) = τ3 at b3 s3 f3 z3
  have b4 : ∀ y, dB (setL τ3 36 ((14000 * k + (S + l.length + 3)) / 8) (rlay (τ3.2 36 ((14000 * k + (S + l.length + 3)) / 8)) ((14000 * k + (S + l.length + 3)) % 8) (v.toInt8.toInt32))) k y = if y = S + l.length + 3 then aLow8 v else dB τ3 k y := fun y => by
    rw [dB_lay]
    by_cases q : y = S + l.length + 3
    · rw [if_pos q, if_pos q]
      exact i_b8
    · rw [if_neg q, if_neg q]
  have s4 : SLd k σ (setL τ3 36 ((14000 * k + (S + l.length + 3)) / 8) (rlay (τ3.2 36 ((14000 * k + (S + l.length + 3)) / 8)) ((14000 * k + (S + l.length + 3)) % 8) (v.toInt8.toInt32))) := SLd_L s3 (by omega)
  have f4 : Fr [37] [36] σ (setL τ3 36 ((14000 * k + (S + l.length + 3)) / 8) (rlay (τ3.2 36 ((14000 * k + (S + l.length + 3)) / 8)) ((14000 * k + (S + l.length + 3)) % 8) (v.toInt8.toInt32))) := Fr_w (Fr_t f3 Fr_L) (by simp) (by simp)
  have z4 : (setL τ3 36 ((14000 * k + (S + l.length + 3)) / 8) (rlay (τ3.2 36 ((14000 * k + (S + l.length + 3)) / 8)) ((14000 * k + (S + l.length + 3)) % 8) (v.toInt8.toInt32))).1 37 k = Int32.ofNat (S + l.length) := z3
  generalize setL τ3 36 ((14000 * k + (S + l.length + 3)) / 8) (rlay (τ3.2 36 ((14000 * k + (S + l.length + 3)) / 8)) ((14000 * k + (S + l.length + 3)) % 8) (v.toInt8.toInt32)) = τ4 at b4 s4 f4 z4
  refine WP_ld rfl 224 (by decide +kernel) hk ?_
  refine WP_st rfl 224 (by decide +kernel) hk ?_
  rw [z4]
  have bb : ∀ y, dB (setI τ4 37 k (Int32.ofNat (S + l.length) + 4)) k y = if y = S + l.length + 3 then aLow8 v else if y = S + l.length + 2 then aLow8 (v >>> 8) else if y = S + l.length + 1 then aLow8 (v >>> 16) else if y = S + l.length then aLow8 (v >>> 24) else dB τ k y := fun y => by
    show dB τ4 k y = _
    rw [b4, b3, b2, b1]
  refine WP_some ⟨SLd_I s4 (by unfold FOf; omega), Fr_w (Fr_t f4 Fr_I) (by simp) (by simp), ?_, fun y hy => ?_, fun y x hx => ?_⟩
  · rw [setI_e, List.length_append, List.length_map]
    exact (i_ad (c := S + l.length) (s := 4)).trans (by rw [Nat.add_assoc]; rfl)
  · rw [bb, if_neg (by omega), if_neg (by omega), if_neg (by omega), if_neg (by omega)]
    exact w4 y hy
  · rw [bb]
    rcases get_app hx with ⟨q, hx⟩ | ⟨q, hx⟩
    · rw [if_neg (by omega), if_neg (by omega), if_neg (by omega), if_neg (by omega)]
      exact w5 y x hx
    · obtain ⟨hl, _⟩ := List.getElem?_eq_some_iff.mp hx
      have hl : y - l.length < 4 := hl
      have hc : y - l.length = 0 ∨ y - l.length = 1 ∨ y - l.length = 2 ∨ y - l.length = 3 := by omega
      rcases hc with hc | hc | hc | hc
      · rw [hc] at hx
        rw [if_neg (by omega), if_neg (by omega), if_neg (by omega), if_pos (by omega)]
        exact Option.some.inj (Option.some.inj hx)
      · rw [hc] at hx
        rw [if_neg (by omega), if_neg (by omega), if_pos (by omega)]
        exact Option.some.inj (Option.some.inj hx)
      · rw [hc] at hx
        rw [if_neg (by omega), if_pos (by omega)]
        exact Option.some.inj (Option.some.inj hx)
      · rw [hc] at hx
        rw [if_pos (by omega)]
        exact Option.some.inj (Option.some.inj hx)
/-- one byte left as it is -/
theorem Wr_skip {k : Nat} {σ τ : RS} {S : Nat} {l : List (Option Int32)} (h : Wr k σ τ S l) : Wr k σ (setI τ 37 k (Int32.ofNat (S + l.length) + 1)) S (l ++ [none]) := by
  obtain ⟨w1, w2, w3, w4, w5⟩ := h
  refine ⟨SLd_I w1 (by unfold FOf; omega), Fr_w (Fr_t w2 Fr_I) (by simp) (by simp), ?_, w4, fun y v hv => ?_⟩
  · rw [setI_e, List.length_append, i_s]
    rfl
  · rcases get_app hv with ⟨q, hx⟩ | ⟨q, hx⟩
    · exact w5 y v hx
    · obtain ⟨hl, _⟩ := List.getElem?_eq_some_iff.mp hx
      have hl : y - l.length < 1 := hl
      rw [show y - l.length = 0 by omega] at hx
      exact absurd hx (by simp)
