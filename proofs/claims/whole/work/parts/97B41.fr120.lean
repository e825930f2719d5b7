/-! what was asked stays while letters are sent -/
def P0 (m : Option RS) (v : Int32) : Prop := ∀ τ, m = some τ → τ.1 120 0 = v
theorem P0_some {σ : RS} {v : Int32} (h : σ.1 120 0 = v) : P0 (some σ) v := by
  intro τ e
  rw [← Option.some.inj e]
  exact h
theorem P0_none {v : Int32} : P0 none v := fun τ e => nomatch e
theorem P0_bind {α : Type} {m : Option α} {f : α → Option RS} {v : Int32} (h : ∀ x, P0 (f x) v) : P0 (m.bind f) v := by
  cases m with
  | none => exact P0_none
  | some x => exact h x
theorem P0_if {c : Prop} [Decidable c] {a b : Option RS} {v : Int32} (h1 : P0 a v) (h2 : P0 b v) : P0 (if c then a else b) v := by
  split
  · exact h1
  · exact h2
theorem P0_call {m : Option RS} {f : RS → Option RS} {v : Int32} (hm : P0 m v) (h : ∀ τ, τ.1 120 0 = v → P0 (f τ) v) : P0 (m.bind f) v := by
  cases m with
  | none => exact P0_none
  | some x => exact h x (hm x rfl)
theorem P0_setI {σ : RS} {k i : Nat} {x v : Int32} (hk : ¬ k = 120) (h : σ.1 120 0 = v) : (setI σ k i x).1 120 0 = v := by
  show (if 120 = k ∧ 0 = i then x else σ.1 120 0) = v
  rw [if_neg (fun y => hk y.1.symm)]
  exact h
theorem P0_st {σ : RS} {k : Nat} {i x v : Int32} {f : RS → Option RS} (hk : ¬ k = 120) (h : σ.1 120 0 = v) (hf : ∀ τ, τ.1 120 0 = v → P0 (f τ) v) : P0 ((rst σ k i x).bind f) v := by
  refine P0_call (fun τ e => ?_) hf
  unfold rst at e
  split at e
  · exact nomatch e
  · rw [← Option.some.inj e]
    exact P0_setI hk h
theorem P0_stL {σ : RS} {k : Nat} {i : Int32} {x : Int64} {v : Int32} {f : RS → Option RS} (h : σ.1 120 0 = v) (hf : ∀ τ, τ.1 120 0 = v → P0 (f τ) v) : P0 ((rstL σ k i x).bind f) v := by
  refine P0_call (fun τ e => ?_) hf
  unfold rstL at e
  split at e
  · exact nomatch e
  · rw [← Option.some.inj e]
    exact h
theorem P0_set {σ : RS} {k i : Nat} {x v : Int32} {f : RS → Option RS} (hk : ¬ k = 120) (h : σ.1 120 0 = v) (hf : ∀ τ, τ.1 120 0 = v → P0 (f τ) v) : P0 ((some (setI σ k i x)).bind f) v := P0_call (P0_some (P0_setI hk h)) hf
theorem P0_copyLetter {F : Nat} {σ : RS} {a b v : Int32} (h : σ.1 120 0 = v) : P0 (m_copyLetter F σ a b) v := by
  have l3 : ∀ f σ c, σ.1 120 0 = v → P0 (m_copyLetter_b194 F f σ a b c) v := by
    intro f
    induction f with
    | zero => intro σ c h; exact P0_none
    | succ f ih =>
      intro σ c h
      unfold m_copyLetter_b194
      refine P0_bind fun _ => P0_if (P0_some h) (P0_bind fun _ => P0_stL h fun τ ht => ih τ _ ht)
  have l2 : ∀ f σ c, σ.1 120 0 = v → P0 (m_copyLetter_b110 F f σ a b c) v := by
    intro f
    induction f with
    | zero => intro σ c h; exact P0_none
    | succ f ih =>
      intro σ c h
      unfold m_copyLetter_b110
      refine P0_bind fun _ => P0_if (l3 _ _ _ h) (P0_bind fun _ => P0_st (by decide) h fun τ ht => P0_bind fun _ => P0_st (by decide) ht fun τ ht => P0_bind fun _ => P0_st (by decide) ht fun τ ht => ih τ _ ht)
  have l1 : ∀ f σ c, σ.1 120 0 = v → P0 (m_copyLetter_b74 F f σ a b c) v := by
    intro f
    induction f with
    | zero => intro σ c h; exact P0_none
    | succ f ih =>
      intro σ c h
      unfold m_copyLetter_b74
      refine P0_if (l2 _ _ _ h) (P0_bind fun _ => P0_st (by decide) h fun τ ht => ih τ _ ht)
  unfold m_copyLetter m_copyLetter_b0
  refine P0_bind fun _ => P0_st (by decide) h fun τ h => P0_bind fun _ => P0_st (by decide) h fun τ h => P0_bind fun _ => P0_st (by decide) h fun τ h => P0_bind fun _ => P0_st (by decide) h fun τ h => P0_bind fun _ => P0_st (by decide) h fun τ h => P0_bind fun _ => P0_st (by decide) h fun τ h => l1 _ _ _ h
theorem P0_fly {F : Nat} {σ : RS} {a b v : Int32} (h : σ.1 120 0 = v) : P0 (m_fly F σ a b) v := by
  have l : ∀ f σ c, σ.1 120 0 = v → P0 (m_fly_b23 F f σ a b c) v := by
    intro f
    induction f with
    | zero => intro σ c h; exact P0_none
    | succ f ih =>
      intro σ c h
      unfold m_fly_b23
      refine P0_bind fun _ => P0_if (P0_call (P0_copyLetter h) fun τ h => P0_st (by decide) h fun τ h => P0_st (by decide) h fun τ h => P0_st (by decide) h fun τ h => P0_set (by decide) h fun τ h => P0_set (by decide) h fun τ h => P0_set (by decide) h fun τ h => P0_some h) (ih _ _ h)
  unfold m_fly m_fly_b0
  exact P0_if (l _ _ _ h) (P0_set (by decide) h fun τ h => P0_some h)
theorem P0_draw {σ : RS} {n v : Int32} (h : σ.1 120 0 = v) {f : Int32 × RS → Option RS} (hf : ∀ x, x.2.1 120 0 = v → P0 (f x) v) : P0 ((m_draw σ n).bind f) v := by
  cases e : m_draw σ n with
  | none => exact P0_none
  | some x =>
    refine hf x ?_
    unfold m_draw at e
    have e : (if n.toInt64 = 0 then none else _) = some x := e
    split at e
    · exact nomatch e
    · rw [← Option.some.inj e]
      exact h
theorem P0_parted {σ : RS} {a b v : Int32} (h : σ.1 120 0 = v) {f : Int32 × RS → Option RS} (hf : ∀ x, x.2.1 120 0 = v → P0 (f x) v) : P0 ((m_areParted σ a b).bind f) v := by
  cases e : m_areParted σ a b with
  | none => exact P0_none
  | some x =>
    refine hf x ?_
    unfold m_areParted m_areParted_b0 at e
    split at e
    · have e : some _ = some x := e
      rw [← Option.some.inj e]
      exact h
    · have e : some _ = some x := e
      rw [← Option.some.inj e]
      exact h
theorem P0_sendOut {F : Nat} {σ : RS} {a v : Int32} (h : σ.1 120 0 = v) : P0 (m_sendOut F σ a) v := by
  have l1 : ∀ σ s b, σ.1 120 0 = v → P0 (m_sendOut_b125 F σ s a b) v := by
    intro σ s b h
    unfold m_sendOut_b125
    exact P0_draw h fun x h => P0_call (P0_fly h) fun τ h => P0_if (P0_some h) (P0_draw h fun x h => P0_call (P0_fly h) fun τ h => P0_some h)
  have l2 : ∀ σ b, σ.1 120 0 = v → P0 (m_sendOut_b81 F σ a b) v := by
    intro σ b h
    unfold m_sendOut_b81
    exact P0_draw h fun x h => P0_if (P0_draw h fun x h => P0_if (l1 _ _ _ h) (l1 _ _ _ h)) (P0_set (by decide) h fun τ h => P0_some h)
  unfold m_sendOut m_sendOut_b0
  exact P0_bind fun _ => P0_bind fun _ => P0_parted h fun x h => P0_if (P0_bind fun _ => P0_if (l2 _ _ h) (P0_if (l2 _ _ h) (P0_if (l2 _ _ h) (P0_call (P0_fly h) fun τ h => P0_some h)))) (P0_set (by decide) h fun τ h => P0_some h)
theorem P0_post {F : Nat} {σ : RS} {a b v : Int32} (h : σ.1 120 0 = v) : P0 (m_post F σ a b) v := by
  unfold m_post m_post_b0
  exact P0_st (by decide) h fun τ h => P0_st (by decide) h fun τ h => P0_bind fun _ => P0_if (P0_bind fun _ => P0_if (P0_some h) (P0_bind fun _ => P0_call (P0_copyLetter h) fun τ h => P0_bind fun _ => P0_st (by decide) h fun τ h => P0_some h)) (P0_call (P0_sendOut h) fun τ h => P0_some h)
theorem P0_layLetter {σ : RS} {a b v : Int32} (h : σ.1 120 0 = v) : P0 (m_layLetter σ a b) v := by
  unfold m_layLetter
  exact P0_bind fun _ => P0_stL h fun τ h => P0_some h
theorem P0_write {σ : RS} {a b c d e v : Int32} (h : σ.1 120 0 = v) : P0 (m_write σ a b c d e) v := by
  unfold m_write
  exact P0_st (by decide) h fun τ h => P0_st (by decide) h fun τ h => P0_st (by decide) h fun τ h => P0_st (by decide) h fun τ h => P0_st (by decide) h fun τ h => P0_st (by decide) h fun τ h => P0_st (by decide) h fun τ h => P0_some h
theorem P0_postReply {F : Nat} {σ : RS} {a b c d v : Int32} (h : σ.1 120 0 = v) : P0 (m_postReply F σ a b c d) v := by
  have l1 : ∀ σ, σ.1 120 0 = v → P0 (m_postReply_b79 F σ a b) v := by
    intro σ h
    unfold m_postReply_b79
    exact P0_bind fun _ => P0_call (P0_post h) fun τ h => P0_some h
  have l2 : ∀ f σ c, σ.1 120 0 = v → P0 (m_postReply_b47 F f σ a b c) v := by
    intro f
    induction f with
    | zero => intro σ c h; exact P0_none
    | succ f ih =>
      intro σ c h
      unfold m_postReply_b47
      refine P0_if (l1 _ h) (P0_bind fun _ => P0_call (P0_layLetter h) fun τ h => ih _ _ h)
  unfold m_postReply m_postReply_b0
  exact P0_bind fun _ => P0_call (P0_write h) fun τ h => P0_if (l1 _ h) (P0_st (by decide) h fun τ h => P0_st (by decide) h fun τ h => l2 _ _ _ h)
theorem WP_and {α : Type} {m : Option α} {Q P : α → Prop} (h : WP m Q) (hp : ∀ x, m = some x → P x) : WP m (fun x => Q x ∧ P x) := by
  obtain ⟨x, e, q⟩ := h
  exact ⟨x, e, q, hp x e⟩
