/-! bytes of the log; appendCode; sendAll -/
def gB (τ : RS) (p y : Nat) : Int32 := rB (τ.2 63) (256 * p + y)
theorem gB_lay {τ : RS} {p y0 y : Nat} {v : Int32} : gB (setL τ 63 ((256 * p + y0) / 8) (rlay (τ.2 63 ((256 * p + y0) / 8)) ((256 * p + y0) % 8) v)) p y = if y = y0 then v.toInt8.toInt32 else gB τ p y := by
  unfold gB
  rw [setL_w, rB_lay]
  by_cases q : y = y0
  · rw [if_pos q, if_pos (by omega)]
  · rw [if_neg q, if_neg (by omega)]
/-- bytes lie at the beginning of an entry's content -/
def Lw (p : Nat) (σ τ : RS) (l : List (Option Int32)) : Prop := SLg p σ τ ∧ Fr [] [63] σ τ ∧ ∀ y v, l[y]? = some (some v) → gB τ p y = v
theorem Lw_0 {p : Nat} {σ : RS} : Lw p σ σ [] := ⟨SLg_refl, ⟨fun _ _ => rfl, fun _ _ => rfl⟩, fun y v hv => absurd hv (by simp)⟩
theorem Lw_lay {p n : Nat} {σ τ : RS} {l : List (Option Int32)} {v : Int32} {k : Int32} (hp : p < 3584) (hl : l.length < 256) (h : Lw p σ τ l) (hn : n = l.length) (hk : k = Int32.ofNat (256 * p + n)) : WP (m_layLog τ k v) (fun τ' => Lw p σ τ' (l ++ [some (v.toInt8.toInt32)])) := by
  subst hn
  obtain ⟨w1, w2, w3⟩ := h
  rw [hk, m_layLog_n (by omega)]
  refine WP_some ⟨SLg_L w1 (by omega), Fr_w (Fr_t w2 Fr_L) (by simp) (by simp), fun y x hx => ?_⟩
  rw [gB_lay]
  rcases get_app hx with ⟨q, hy⟩ | ⟨q, hy⟩
  · rw [if_neg (by omega)]
    exact w3 y x hy
  · obtain ⟨hl', _⟩ := List.getElem?_eq_some_iff.mp hy
    have : y - l.length < 1 := hl'
    rw [if_pos (by omega)]
    rw [show y - l.length = 0 by omega] at hy
    exact Option.some.inj (Option.some.inj hy)
theorem Lw_skip {p : Nat} {σ τ : RS} {l : List (Option Int32)} (h : Lw p σ τ l) : Lw p σ τ (l ++ [none]) := by
  obtain ⟨w1, w2, w3⟩ := h
  refine ⟨w1, w2, fun y x hx => ?_⟩
  rcases get_app hx with ⟨q, hy⟩ | ⟨q, hy⟩
  · exact w3 y x hy
  · obtain ⟨hl', _⟩ := List.getElem?_eq_some_iff.mp hy
    have : y - l.length < 1 := hl'
    rw [show y - l.length = 0 by omega] at hy
    exact absurd hy (by simp)
theorem Lw_bM {p : Nat} {σ τ : RS} {l : List (Option Int32)} (h : Lw p σ τ l) : bM (fun q => rB (τ.2 63) (256 * p + q)) l 256 := fun y v _ hv => h.2.2 y v hv
theorem M_nextContent {σ : RS} {a : AA} {u : AU} {s : Nat} (h : RM σ a u) (hs : s < 7) : m_nextContent σ (Int32.ofNat s) = some (Int32.ofNat (256 * lPn a s), σ) := by
  rw [m_nextContent_n hs, RM_7 (f := 56) h (by decide) hs]
  rfl
theorem wfE_code {K : List AK} {t c : Int32} : wfE K (t, 1, 4, c, 0, -1) := ⟨rfl, Or.inr (Or.inl rfl), fun z => absurd (show (1 : Int32) = 2 from z) (by decide)⟩
theorem M_appendCode {F : Nat} {σ : RS} {a : AA} {u : AU} {s : Nat} {c : Int32} (hF : 400 ≤ F) (h : RM σ a u) (hs : s < 7) (hup : aS a 52 s = 1) (hz : u.2 s) (hp : pApp a s) : WP (m_appendCode F σ (Int32.ofNat s) c) (fun σ' => RM σ' (A_appendCode a s c) u) := by
  have hl := rLp_lt (n := aLast a s + 1) hs
  have hl : lPn a s < 3584 := hl
  unfold m_appendCode A_appendCode
  refine WP_eq (M_nextContent h hs) ?_
  refine WP_call (Lw_lay (n := 0) hl (by simp) (Lw_0 (σ := σ)) rfl rfl) (fun τ1 w1 => ?_)
  refine WP_call (Lw_lay (n := 1) hl (by simp) w1 rfl i_s) (fun τ2 w2 => ?_)
  refine WP_call (Lw_lay (n := 2) hl (by simp) w2 rfl (i_ad (s := 2))) (fun τ3 w3 => ?_)
  refine WP_call (Lw_lay (n := 3) hl (by simp) w3 rfl (i_ad (s := 3))) (fun τ4 w4 => ?_)
  have hr : RM τ4 a u := RM_lgp h hs w4.1
  refine WP_r7 hr (by decide) hs ?_
  have hb := Lw_bM w4
  refine WP_call (M_append (e := (aS a 53 s, 1, 4, c, 0, -1)) hF hr hs hup hz hp wfE_code (by show (4 : Nat) ≤ 256; omega) ?_) (fun p hp => WP_some hp)
  intro y v hy hv
  refine hb y v hy ?_
  rw [← hv]
  show ([some ((c >>> (24 &&& 31)).toInt8.toInt32.toInt8.toInt32), some ((c >>> (16 &&& 31)).toInt8.toInt32.toInt8.toInt32), some ((c >>> (8 &&& 31)).toInt8.toInt32.toInt8.toInt32), some (c.toInt8.toInt32.toInt8.toInt32)] : List (Option Int32))[y]? = _
  rw [i_b8, i_b8, i_b8, i_b8]
  rfl
/-- what append leaves as it was -/
theorem AFr_app {a : AA} {s : Nat} {e : AE} : AFr [43, 56, 64, 65, 2, 31, 32, 71] [2, 6, 8] a (A_append a s e) := by
  unfold A_append
  have h1 : AFr [43] [6, 8] a (aSeg a s).1 := by
    unfold aSeg
    dsimp only
    split
    · exact AFr_w (AFr_t (AFr_t AFr_put AFr_I) AFr_ch) (by decide) (by decide)
    · exact AFr_w AFr_r (by decide) (by decide)
  exact AFr_w (AFr_t (AFr_t h1 (AFr_if (AFr_t (AFr_t (AFr_t (AFr_t AFr_put AFr_lg) AFr_I) AFr_I) AFr_I) (AFr_t (AFr_t AFr_put AFr_lg) AFr_I))) AFr_soil) (by decide) (by decide)
theorem AFr_stream {s p : Nat} : ∀ (m : Nat) (a : AA), AFr [2, 21, 22, 86, 88] [0, 1] a (aStream s p m a).1 := by
  intro m
  induction m with
  | zero => exact fun a => AFr_w AFr_r (by decide) (by decide)
  | succ m ih =>
    intro a
    unfold aStream
    dsimp only
    by_cases q : aS a 86 (7 * s + p) ≤ aLast a s ∧ aS a 88 (7 * s + p) < (if aS a 89 (7 * s + p) = 0 then 4 else 1)
    · rw [if_pos q]
      exact AFr_w (AFr_t (AFr_t (AFr_t AFr_I AFr_I) AFr_post) (ih _)) (by decide) (by decide)
    · rw [if_neg q]
      exact AFr_w AFr_r (by decide) (by decide)
theorem AFr_send {a : AA} {s p : Nat} {bt : Bool} : AFr [2, 21, 22, 86, 88] [0, 1] a (A_send a s p bt) := by
  unfold A_send
  dsimp only
  exact AFr_w (AFr_if (AFr_if AFr_r (AFr_t AFr_I AFr_post)) (AFr_if (AFr_t (AFr_stream 4 a) AFr_post) (AFr_stream 4 a))) (by decide) (by decide)
theorem AFr_sendAllN {a : AA} {s : Nat} {bt : Bool} : ∀ n, AFr [2, 21, 22, 86, 88] [0, 1] a (aSendAll s bt a n) := by
  intro n
  induction n with
  | zero => exact AFr_w AFr_r (by decide) (by decide)
  | succ n ih =>
    unfold aSendAll
    dsimp only
    split
    · exact AFr_w (AFr_t ih AFr_send) (by decide) (by decide)
    · exact ih
theorem AFr_sendAll {a : AA} {s : Nat} {bt : Bool} : AFr [2, 21, 22, 86, 88] [0, 1] a (A_sendAll a s bt) := AFr_sendAllN 7
theorem M_sendAll {F : Nat} {σ : RS} {a : AA} {u : AU} {s : Nat} {bt : Bool} (hF : 400 ≤ F) (h : RM σ a u) (hs : s < 7) (hz : u.2 (7 + s)) (hr : aS a 73 s = 3) : WP (m_sendAll F σ (Int32.ofNat s) (aB bt)) (fun σ' => RM σ' (A_sendAll a s bt) u) := by
  have key : ∀ n p (τ : RS), 8 ≤ p + n → p ≤ 7 → RM τ (aSendAll s bt a p) u → WP (m_sendAll_b2 F n τ (Int32.ofNat s) (aB bt) (Int32.ofNat p)) (fun σ' => RM σ' (A_sendAll a s bt) u) := by
    intro n
    induction n with
    | zero => intro p τ h1 h2; omega
    | succ n ih =>
      intro p τ h1 h2 h3
      unfold m_sendAll_b2
      refine WP_if (p := 7 ≤ p) (i_gei (q := 7) (by omega) (by omega)) (fun q => ?_) (fun q => ?_)
      · have : p = 7 := by omega
        subst this
        exact WP_some h3
      · have next : ∀ τ', RM τ' (aSendAll s bt a (p + 1)) u → WP (m_sendAll_b24 F (m_sendAll_b2 F n) τ' (Int32.ofNat s) (aB bt) (Int32.ofNat p)) (fun σ' => RM σ' (A_sendAll a s bt) u) := by
          intro τ' h'
          unfold m_sendAll_b24
          rw [i_s]
          exact ih (p + 1) τ' (by omega) (by omega) h'
        unfold aSendAll at next
        dsimp only at next
        refine WP_eq (M_isPeer h3 hs (by omega)) ?_
        cases hb : aPeer (aSendAll s bt a p) s p with
        | false =>
          rw [hb] at next
          exact WP_if c0_eq (fun _ => next τ h3) (fun y => absurd rfl y)
        | true =>
          rw [hb] at next
          refine WP_if c0_eq (fun y => absurd (show (1 : Int32) = 0 from y) (by decide)) (fun _ => ?_)
          refine WP_call (M_send hF h3 hs (by omega) hz ?_) (fun τ2 h4 => next τ2 h4)
          rw [(AFr_sendAllN p).1 73 (by decide)]
          exact hr
  exact key F 0 σ (by omega) (by omega) h
