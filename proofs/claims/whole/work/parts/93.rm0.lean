/-! places as numbers; reading and writing the reference's arrays at such places -/
theorem i_nn {n : Nat} (h : n < 2147483648) : ¬ Int32.ofNat n < 0 := by
  rw [Int32.lt_iff_toInt_lt, Int32.toInt_ofNat_of_lt h]
  simp
theorem i_cl {n : Nat} (h : n < 2147483648) : (Int32.ofNat n).toNatClampNeg = n := by
  unfold Int32.toNatClampNeg
  rw [Int32.toInt_ofNat_of_lt h]
  simp
theorem rlen_le : ∀ f, rlen f < 2147483648 := by
  intro f
  by_cases q : f < 147
  · exact (by decide +kernel : ∀ f, f < 147 → rlen f < 2147483648) f q
  · have e1 : rTab[f]? = none := List.getElem?_eq_none (by have : rTab.length = 147 := rfl
                                                           omega)
    unfold rlen
    rw [List.getD_eq_getElem?_getD, e1]
    decide
theorem rld_n {σ : RS} {f n : Nat} {i : Int32} (hi : i = Int32.ofNat n) (h : n < rlen f) : rld σ f i = some (σ.1 f n) := by
  have := rlen_le f
  subst hi
  unfold rld
  rw [i_cl (by omega), if_neg (fun z => z.elim (i_nn (by omega)) (by omega))]
theorem rldL_n {σ : RS} {f n : Nat} {i : Int32} (hi : i = Int32.ofNat n) (h : n < rlen f) : rldL σ f i = some (σ.2 f n) := by
  have := rlen_le f
  subst hi
  unfold rldL
  rw [i_cl (by omega), if_neg (fun z => z.elim (i_nn (by omega)) (by omega))]
theorem rst_n {σ : RS} {f n : Nat} {i v : Int32} (hi : i = Int32.ofNat n) (h : n < rlen f) : rst σ f i v = some (setI σ f n v) := by
  have := rlen_le f
  subst hi
  unfold rst
  rw [i_cl (by omega), if_neg (fun z => z.elim (i_nn (by omega)) (by omega))]
theorem rstL_n {σ : RS} {f n : Nat} {i : Int32} {v : Int64} (hi : i = Int32.ofNat n) (h : n < rlen f) : rstL σ f i v = some (setL σ f n v) := by
  have := rlen_le f
  subst hi
  unfold rstL
  rw [i_cl (by omega), if_neg (fun z => z.elim (i_nn (by omega)) (by omega))]
theorem setI_e {σ : RS} {f i : Nat} {v : Int32} : (setI σ f i v).1 f i = v := if_pos ⟨rfl, rfl⟩
theorem setI_f {σ : RS} {f i f' i' : Nat} {v : Int32} (h : f' ≠ f) : (setI σ f i v).1 f' i' = σ.1 f' i' := if_neg (fun z => h z.1)
theorem setI_i {σ : RS} {f i f' i' : Nat} {v : Int32} (h : i' ≠ i) : (setI σ f i v).1 f' i' = σ.1 f' i' := if_neg (fun z => h z.2)
theorem setL_e {σ : RS} {f i : Nat} {v : Int64} : (setL σ f i v).2 f i = v := if_pos ⟨rfl, rfl⟩
theorem setL_f {σ : RS} {f i f' i' : Nat} {v : Int64} (h : f' ≠ f) : (setL σ f i v).2 f' i' = σ.2 f' i' := if_neg (fun z => h z.1)
theorem setL_i {σ : RS} {f i f' i' : Nat} {v : Int64} (h : i' ≠ i) : (setL σ f i v).2 f' i' = σ.2 f' i' := if_neg (fun z => h z.2)
/-! what the methods of pure numbers do -/
theorem m_alarm_n {σ : RS} {e : Nat} {t : Int32} (h : e < 16) : m_alarm σ (Int32.ofNat e) t = some (setI (setI (setI σ 30 e t) 29 e (σ.1 2 0)) 2 0 (σ.1 2 0 + 1)) := by
  unfold m_alarm
  rw [rst_n rfl (show e < rlen 30 from h)]
  simp only [Option.bind_some]
  rw [rst_n rfl (show e < rlen 29 from h)]
  simp only [Option.bind_some]
  rfl
theorem m_drawAlarm_n {σ : RS} {s : Nat} (h : s < 7) : m_drawAlarm σ (Int32.ofNat s) = some (setI (setI (setI (setL σ 84 s (aLcg (σ.2 84 s))) 30 s (σ.1 1 0 + 50 + aRnd (aLcg (σ.2 84 s)) 50)) 29 s (σ.1 2 0)) 2 0 (σ.1 2 0 + 1)) := by
  unfold m_drawAlarm
  rw [rldL_n rfl (show s < rlen 84 from h)]
  simp only [Option.bind_some]
  rw [rstL_n rfl (show s < rlen 84 from h)]
  simp only [Option.bind_some]
  rw [rldL_n rfl (show s < rlen 84 from h)]
  simp only [Option.bind_some]
  rw [if_neg (by decide), setL_e]
  rw [m_alarm_n (by omega)]
  rfl
theorem m_soil_n {σ : RS} {s : Nat} (h : s < 7) : m_soil σ (Int32.ofNat s) = some (if σ.1 71 s = 0 then setI (setI (setI (setI σ 71 s 1) 32 s (σ.1 1 0 + σ.1 72 s)) 31 s (σ.1 2 0)) 2 0 (σ.1 2 0 + 1) else σ) := by
  unfold m_soil
  rw [rld_n rfl (show s < rlen 71 from h)]
  simp only [Option.bind_some]
  by_cases q : σ.1 71 s = 0
  · rw [if_pos (by simp [xc0, q]), if_pos q]
    rw [rst_n rfl (show s < rlen 71 from h)]
    simp only [Option.bind_some]
    rw [rld_n rfl (show s < rlen 72 from h)]
    simp only [Option.bind_some]
    rw [rst_n rfl (show s < rlen 32 from h)]
    simp only [Option.bind_some]
    rw [rst_n rfl (show s < rlen 31 from h)]
    rfl
  · rw [if_neg (by simp [xc0, q]), if_neg q]
