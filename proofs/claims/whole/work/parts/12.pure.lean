section XS2
variable {p : Program} {l : Launch} {e : Env} {R : Room} {s : State} {m : MethodId} {args : Array Value} {below : List Frame} {meth : Method} {c : Code} {H : Heap} {locs : List Loc} {cells slots : Nat} {Q : State → Prop}
variable {cc : ByteArray} {pc nL : Nat} {ls : Array Slot} {G0 : Heap} {Y : State → Prop} {D : va_G} {dA : Nat → ClassId} {base : Nat} {h : xH}
theorem xg_idx : ∀ {lv : List (Nat × Value)} {i : Nat} {v : Value}, xg lv i = some v → ∃ k : Nat, lv[k]? = some (i, v)
  | [], _, _, h => by simp [xg] at h
  | q :: l, i, v, h => by
    unfold xg at h
    split at h
    next hq => cases h; subst hq; exact ⟨0, rfl⟩
    next hq => obtain ⟨k, hk⟩ := xg_idx h; exact ⟨k + 1, by simpa using hk⟩
theorem x_obj (hR : xRp G0 D dA base h H) {a ci : Nat} (ht : (h.1 a).1 = ci + 1) (hc : ci < 17) : base ≤ a ∧ t_OB a (D.1 ci) (xCl ci).2.2 (D.2 ci) H (h.1 a).2.2 := by
  rcases hR.2.1 a (by omega) with ⟨-, -, h3, h4⟩ | ⟨h2, -⟩ | ⟨h5, -⟩
  · rw [ht] at h4; exact ⟨h3, h4⟩
  · omega
  · omega
set_option maxHeartbeats 4000000 in
theorem x_pure (hx : p.tables.exec = Jvm.exec) (hb : c.code = cc) {o : Nat} (hown : s.vm.findClass (xOwn o) = some m.cls) (hts : ∀ w ∈ xALL, w.before args s = true) (hK : xKn Y D dA s) (hR : xRp G0 D dA base h H)
    {i : Instr} {len : Nat} (hd : decode cc pc = .ok (i, len)) (hlen : xlen i = 0 ∨ xlen i = len) {lv lv' : xL} {st st' : List Value} {pc' : Nat} (hl : lv_has ls nL lv) (he : xpure o nL i pc len lv st h = some (pc', lv', st'))
    (kk : ∀ ls', lv_has ls' nL lv' → W p l e R s m args below meth c H locs cells slots Q (F0 m pc' ls' st')) : W p l e R s m args below meth c H locs cells slots Q (F0 m pc ls st) := by
  cases i
  case aconst_null =>
    obtain rfl : len = 1 := by simp only [xlen] at hlen; omega
    simp only [xpure] at he
    cases he
    exact lv_null hx hb hd (kk ls hl)
  case iconst n =>
    obtain rfl : len = 1 := by simp only [xlen] at hlen; omega
    simp only [xpure] at he
    cases he
    exact lv_iconst hx hb hd rfl (kk ls hl)
  case bipush n =>
    obtain rfl : len = 2 := by simp only [xlen] at hlen; omega
    simp only [xpure] at he
    cases he
    exact lv_bipush hx hb hd rfl (kk ls hl)
  case sipush n =>
    obtain rfl : len = 3 := by simp only [xlen] at hlen; omega
    simp only [xpure] at he
    cases he
    exact lv_sipush hx hb hd rfl (kk ls hl)
  case lconst n =>
    obtain rfl : len = 1 := by simp only [xlen] at hlen; omega
    simp only [xpure] at he
    cases he
    exact lv_lconst hx hb hd rfl (kk ls hl)
  case ldc idx =>
    obtain rfl : len = 2 := by simp only [xlen] at hlen; omega
    simp only [xpure] at he
    split at he
    next v hv => cases he; exact lv_ldc hx hb hown (hts _ (x_cR hv)) hd (kk ls hl)
    next => cases he
  case ldc_w idx =>
    obtain rfl : len = 3 := by simp only [xlen] at hlen; omega
    simp only [xpure] at he
    split at he
    next v hv => cases he; exact lv_ldcw hx hb hown (hts _ (x_cR hv)) hd (kk ls hl)
    next => cases he
  case ldc2_w idx =>
    obtain rfl : len = 3 := by simp only [xlen] at hlen; omega
    simp only [xpure] at he
    split at he
    next v hv => cases he; exact lv_ldc2 hx hb hown (hts _ (x_lR hv)) hd (kk ls hl)
    next => cases he
  case iload_n k =>
    obtain rfl : len = 1 := by simp only [xlen] at hlen; omega
    simp only [xpure, xldI] at he
    split at he
    next x hg => cases he; exact lv_iload_n hx hb hd rfl (xg_has hl hg) (kk ls hl)
    next => cases he
  case iload k =>
    obtain rfl : len = 2 := by simp only [xlen] at hlen; omega
    simp only [xpure, xldI] at he
    split at he
    next x hg => cases he; exact lv_iload hx hb hd (xg_has hl hg) (kk ls hl)
    next => cases he
  case lload_n k =>
    obtain rfl : len = 1 := by simp only [xlen] at hlen; omega
    simp only [xpure, xldL] at he
    split at he
    next x hg => cases he; exact lv_lload_n hx hb hd rfl (xg_has hl hg) (kk ls hl)
    next => cases he
  case lload k =>
    obtain rfl : len = 2 := by simp only [xlen] at hlen; omega
    simp only [xpure, xldL] at he
    split at he
    next x hg => cases he; exact lv_lload hx hb hd (xg_has hl hg) (kk ls hl)
    next => cases he
  case aload_n k =>
    obtain rfl : len = 1 := by simp only [xlen] at hlen; omega
    simp only [xpure, xldA] at he
    split at he
    next x hg => cases he; exact lv_aload_n hx hb hd rfl (xg_has hl hg) (kk ls hl)
    next hg => cases he; exact lv_aload_nN hx hb hd rfl (xg_has hl hg) (kk ls hl)
    next => cases he
  case aload k =>
    obtain rfl : len = 2 := by simp only [xlen] at hlen; omega
    simp only [xpure, xldA] at he
    split at he
    next x hg => cases he; exact lv_aload hx hb hd (xg_has hl hg) (kk ls hl)
    next hg => cases he; exact lv_aloadN hx hb hd (xg_has hl hg) (kk ls hl)
    next => cases he
  case istore_n k =>
    obtain rfl : len = 1 := by simp only [xlen] at hlen; omega
    simp only [xpure, xstI] at he
    split at he
    next x r =>
      split at he
      next hn => cases he; exact lv_istore_n hx hb hd rfl hl hn rfl kk
      next => cases he
    next => cases he
  case istore k =>
    obtain rfl : len = 2 := by simp only [xlen] at hlen; omega
    simp only [xpure, xstI] at he
    split at he
    next x r =>
      split at he
      next hn => cases he; exact lv_istore hx hb hd hl hn rfl kk
      next => cases he
    next => cases he
  case lstore_n k =>
    obtain rfl : len = 1 := by simp only [xlen] at hlen; omega
    simp only [xpure, xstL] at he
    split at he
    next x r =>
      split at he
      next hn => cases he; exact lv_lstore_n hx hb hd rfl hl hn rfl kk
      next => cases he
    next => cases he
  case lstore k =>
    obtain rfl : len = 2 := by simp only [xlen] at hlen; omega
    simp only [xpure, xstL] at he
    split at he
    next x r =>
      split at he
      next hn => cases he; exact lv_lstore hx hb hd hl hn rfl kk
      next => cases he
    next => cases he
  case astore_n k =>
    obtain rfl : len = 1 := by simp only [xlen] at hlen; omega
    simp only [xpure, xstA] at he
    split at he
    next x r =>
      split at he
      next hn => cases he; exact lv_astore_n hx hb hd rfl hl hn rfl kk
      next => cases he
    next r =>
      split at he
      next hn => cases he; exact lv_astore_nN hx hb hd rfl hl hn rfl kk
      next => cases he
    next => cases he
  case astore k =>
    obtain rfl : len = 2 := by simp only [xlen] at hlen; omega
    simp only [xpure, xstA] at he
    split at he
    next x r =>
      split at he
      next hn => cases he; exact lv_astore hx hb hd hl hn rfl kk
      next => cases he
    next r =>
      split at he
      next hn => cases he; exact lv_astoreN hx hb hd hl hn rfl kk
      next => cases he
    next => cases he
  case iinc k n =>
    obtain rfl : len = 3 := by simp only [xlen] at hlen; omega
    simp only [xpure] at he
    split at he
    next x hg =>
      split at he
      next hn =>
        cases he
        obtain ⟨q, hq⟩ := xg_idx hg
        exact lv_iinc hx hb hd hl hq rfl hn rfl kk
      next => cases he
    next => cases he
  case dup =>
    obtain rfl : len = 1 := by simp only [xlen] at hlen; omega
    simp only [xpure] at he
    split at he
    next v r =>
      split at he
      next hv => cases he; exact lv_dup hx hb hd hv (kk ls hl)
      next => cases he
    next => cases he
  case pop =>
    obtain rfl : len = 1 := by simp only [xlen] at hlen; omega
    simp only [xpure] at he
    split at he
    next v r =>
      split at he
      next hv => cases he; exact lv_pop hx hb hd hv (kk ls hl)
      next => cases he
    next => cases he
  case dup_x1 =>
    obtain rfl : len = 1 := by simp only [xlen] at hlen; omega
    simp only [xpure] at he
    split at he
    next v q r =>
      split at he
      next hv => cases he; exact lv_dup_x1 hx hb hd hv.1 hv.2 (kk ls hl)
      next => cases he
    next => cases he
  case dup2 =>
    obtain rfl : len = 1 := by simp only [xlen] at hlen; omega
    simp only [xpure] at he
    split at he
    next v q r =>
      split at he
      next hv => cases he; exact lv_dup2_11 hx hb hd hv.1 hv.2 (kk ls hl)
      next => cases he
    next => cases he
  case iadd =>
    obtain rfl : len = 1 := by simp only [xlen] at hlen; omega
    simp only [xpure, xI2] at he
    split at he
    next => cases he; exact lv_iadd hx hb hd (kk ls hl)
    next => cases he
  case isub =>
    obtain rfl : len = 1 := by simp only [xlen] at hlen; omega
    simp only [xpure, xI2] at he
    split at he
    next => cases he; exact lv_isub hx hb hd (kk ls hl)
    next => cases he
  case imul =>
    obtain rfl : len = 1 := by simp only [xlen] at hlen; omega
    simp only [xpure, xI2] at he
    split at he
    next => cases he; exact lv_imul hx hb hd (kk ls hl)
    next => cases he
  case iand =>
    obtain rfl : len = 1 := by simp only [xlen] at hlen; omega
    simp only [xpure, xI2] at he
    split at he
    next => cases he; exact lv_iand hx hb hd (kk ls hl)
    next => cases he
  case ior =>
    obtain rfl : len = 1 := by simp only [xlen] at hlen; omega
    simp only [xpure, xI2] at he
    split at he
    next => cases he; exact lv_ior hx hb hd (kk ls hl)
    next => cases he
  case ixor =>
    obtain rfl : len = 1 := by simp only [xlen] at hlen; omega
    simp only [xpure, xI2] at he
    split at he
    next => cases he; exact lv_ixor hx hb hd (kk ls hl)
    next => cases he
  case ishl =>
    obtain rfl : len = 1 := by simp only [xlen] at hlen; omega
    simp only [xpure, xI2] at he
    split at he
    next => cases he; exact lv_ishl hx hb hd (kk ls hl)
    next => cases he
  case ishr =>
    obtain rfl : len = 1 := by simp only [xlen] at hlen; omega
    simp only [xpure, xI2] at he
    split at he
    next => cases he; exact lv_ishr hx hb hd (kk ls hl)
    next => cases he
  case iushr =>
    obtain rfl : len = 1 := by simp only [xlen] at hlen; omega
    simp only [xpure, xI2] at he
    split at he
    next => cases he; exact lv_iushr hx hb hd rfl (kk ls hl)
    next => cases he
  case ineg =>
    obtain rfl : len = 1 := by simp only [xlen] at hlen; omega
    simp only [xpure, xI1] at he
    split at he
    next => cases he; exact lv_ineg hx hb hd (kk ls hl)
    next => cases he
  case i2b =>
    obtain rfl : len = 1 := by simp only [xlen] at hlen; omega
    simp only [xpure, xI1] at he
    split at he
    next => cases he; exact lv_i2b hx hb hd rfl (kk ls hl)
    next => cases he
  case idiv =>
    obtain rfl : len = 1 := by simp only [xlen] at hlen; omega
    simp only [xpure, xI2z] at he
    split at he
    next =>
      split at he
      next => cases he
      next hn => cases he; exact lv_idiv hx hb hd hn (kk ls hl)
    next => cases he
  case irem =>
    obtain rfl : len = 1 := by simp only [xlen] at hlen; omega
    simp only [xpure, xI2z] at he
    split at he
    next =>
      split at he
      next => cases he
      next hn => cases he; exact lv_irem hx hb hd hn (kk ls hl)
    next => cases he
  case ladd =>
    obtain rfl : len = 1 := by simp only [xlen] at hlen; omega
    simp only [xpure, xJ2] at he
    split at he
    next => cases he; exact lv_ladd hx hb hd (kk ls hl)
    next => cases he
  case lmul =>
    obtain rfl : len = 1 := by simp only [xlen] at hlen; omega
    simp only [xpure, xJ2] at he
    split at he
    next => cases he; exact lv_lmul hx hb hd (kk ls hl)
    next => cases he
  case land =>
    obtain rfl : len = 1 := by simp only [xlen] at hlen; omega
    simp only [xpure, xJ2] at he
    split at he
    next => cases he; exact lv_land hx hb hd (kk ls hl)
    next => cases he
  case lor =>
    obtain rfl : len = 1 := by simp only [xlen] at hlen; omega
    simp only [xpure, xJ2] at he
    split at he
    next => cases he; exact lv_lor hx hb hd (kk ls hl)
    next => cases he
  case lxor =>
    obtain rfl : len = 1 := by simp only [xlen] at hlen; omega
    simp only [xpure, xJ2] at he
    split at he
    next => cases he; exact lv_lxor hx hb hd (kk ls hl)
    next => cases he
  case lrem =>
    obtain rfl : len = 1 := by simp only [xlen] at hlen; omega
    simp only [xpure, xJ2z] at he
    split at he
    next =>
      split at he
      next => cases he
      next hn => cases he; exact lv_lrem hx hb hd hn (kk ls hl)
    next => cases he
  case lshl =>
    obtain rfl : len = 1 := by simp only [xlen] at hlen; omega
    simp only [xpure, xJI] at he
    split at he
    next => cases he; exact lv_lshl hx hb hd rfl (kk ls hl)
    next => cases he
  case lshr =>
    obtain rfl : len = 1 := by simp only [xlen] at hlen; omega
    simp only [xpure, xJI] at he
    split at he
    next => cases he; exact lv_lshr hx hb hd rfl (kk ls hl)
    next => cases he
  case lushr =>
    obtain rfl : len = 1 := by simp only [xlen] at hlen; omega
    simp only [xpure, xJI] at he
    split at he
    next => cases he; exact lv_lushr hx hb hd rfl (kk ls hl)
    next => cases he
  case i2l =>
    obtain rfl : len = 1 := by simp only [xlen] at hlen; omega
    simp only [xpure] at he
    split at he
    next => cases he; exact lv_i2l hx hb hd rfl (kk ls hl)
    next => cases he
  case l2i =>
    obtain rfl : len = 1 := by simp only [xlen] at hlen; omega
    simp only [xpure] at he
    split at he
    next => cases he; exact lv_l2i hx hb hd rfl (kk ls hl)
    next => cases he
  case lcmp =>
    obtain rfl : len = 1 := by simp only [xlen] at hlen; omega
    simp only [xpure] at he
    split at he
    next => cases he; exact W.lcmp hx hb hd (kk ls hl)
    next => cases he
  case goto off =>
    obtain rfl : len = 3 := by simp only [xlen] at hlen; omega
    simp only [xpure, xjp] at he
    split at he
    next h0 => cases he; exact lv_goto hx hb hd (xj_ok h0) (kk ls hl)
    next => cases he
  case ifCond k off =>
    obtain rfl : len = 3 := by simp only [xlen] at hlen; omega
    simp only [xpure, xbr] at he
    split at he
    next =>
      split at he
      next h0 =>
        split at he
        next q => cases he; exact x_if0 hx hb hd (xj_ok h0) (fun _ => kk ls hl) (fun z => absurd q z)
        next q => cases he; exact x_if0 hx hb hd (xj_ok h0) (fun z => absurd z q) (fun _ => kk ls hl)
      next => cases he
    next => cases he
  case if_icmp k off =>
    obtain rfl : len = 3 := by simp only [xlen] at hlen; omega
    simp only [xpure, xbr] at he
    split at he
    next =>
      split at he
      next h0 =>
        split at he
        next q => cases he; exact x_if2 hx hb hd (xj_ok h0) (fun _ => kk ls hl) (fun z => absurd q z)
        next q => cases he; exact x_if2 hx hb hd (xj_ok h0) (fun z => absurd z q) (fun _ => kk ls hl)
      next => cases he
    next => cases he
  case if_acmp k off =>
    obtain rfl : len = 3 := by simp only [xlen] at hlen; omega
    cases k
    case eq =>
      simp only [xpure, xbr] at he
      split at he
      next y x r =>
        split at he
        next h0 =>
          split at he
          next q => cases he; exact lv_acmp_eq (rx := some x) (ry := some y) hx hb hd (xj_ok h0) (fun _ => kk ls hl) (fun z => absurd (congrArg some (of_decide_eq_true q)) z)
          next q => cases he; exact lv_acmp_eq (rx := some x) (ry := some y) hx hb hd (xj_ok h0) (fun z => absurd (decide_eq_true (Option.some.inj z)) q) (fun _ => kk ls hl)
        next => cases he
      next => cases he
    case ne =>
      simp only [xpure, xbr] at he
      split at he
      next y x r =>
        split at he
        next h0 =>
          split at he
          next q => cases he; exact lv_acmp_ne (rx := some x) (ry := some y) hx hb hd (xj_ok h0) (fun _ => kk ls hl) (fun z => absurd q (by simp [Option.some.inj z]))
          next q => cases he; exact lv_acmp_ne (rx := some x) (ry := some y) hx hb hd (xj_ok h0) (fun z => absurd (by simp only [Bool.not_eq_true, Bool.not_eq_false'] at q; exact congrArg some (of_decide_eq_true q)) z) (fun _ => kk ls hl)
        next => cases he
      next => cases he
  case ifnull off =>
    obtain rfl : len = 3 := by simp only [xlen] at hlen; omega
    simp only [xpure, xjp] at he
    split at he
    next =>
      split at he
      next h0 => cases he; exact lv_ifnullN hx hb hd (xj_ok h0) (kk ls hl)
      next => cases he
    next => cases he; exact lv_ifnull hx hb hd (kk ls hl)
    next => cases he
  case ifnonnull off =>
    obtain rfl : len = 3 := by simp only [xlen] at hlen; omega
    simp only [xpure, xjp] at he
    split at he
    next =>
      split at he
      next h0 => cases he; exact lv_ifnonnull hx hb hd (xj_ok h0) (kk ls hl)
      next => cases he
    next => cases he; exact lv_ifnonnullN hx hb hd (kk ls hl)
    next => cases he
  case tableswitch d lo hi offs =>
    simp only [xpure, xjp] at he
    split at he
    next x r =>
      split at he
      next hz =>
        split at he
        next h0 => cases he; exact lv_tableOut hx hb hd hz (xj_ok h0) (kk ls hl)
        next => cases he
      next hz =>
        split at he
        next off ho =>
          split at he
          next h0 => cases he; exact lv_tableIn hx hb hd (fun z => hz (Or.inl z)) (fun z => hz (Or.inr z)) ho (xj_ok h0) (kk ls hl)
          next => cases he
        next => cases he
    next => cases he
  case lookupswitch d ps =>
    simp only [xpure, xjp] at he
    split at he
    next x r =>
      split at he
      next hz =>
        split at he
        next h0 => cases he; exact lv_lookup hx hb hd hz rfl (xj_ok h0) (kk ls hl)
        next => cases he
      next => cases he
    next => cases he
  case arraylength =>
    obtain rfl : len = 1 := by simp only [xlen] at hlen; omega
    simp only [xpure] at he
    split at he
    next a r =>
      split at he
      next ht =>
        cases he
        obtain ⟨cell, ty, h1, h2, h3⟩ := x_alen hR hK ht
        exact W.alen hx hb h1 h2 h3 rfl rfl hd (kk ls hl)
      next => cases he
    next => cases he
  case iaload =>
    obtain rfl : len = 1 := by simp only [xlen] at hlen; omega
    simp only [xpure, xald] at he
    split at he
    next i a r =>
      split at he
      next ht =>
        split at he
        next => cases he
        next hi =>
          cases he
          simp only [Bool.or_eq_true, beq_iff_eq] at ht
          rcases ht with ht | ht
          · obtain ⟨cell, h1, h2, h3, h4, h5⟩ := x_ald (j := 0) hR hK rfl ht (by omega) hi
            exact W.iald hx hb h1 h2 h3 h4 h5 rfl rfl hd (kk ls hl)
          · obtain ⟨cell, h1, h2, h3, h4, h5⟩ := x_aldS hR hK ht hi
            exact W.iald hx hb h1 h2 h3 h4 h5 rfl rfl hd (kk ls hl)
      next => cases he
    next => cases he
  case laload =>
    obtain rfl : len = 1 := by simp only [xlen] at hlen; omega
    simp only [xpure, xald] at he
    split at he
    next i a r =>
      split at he
      next ht =>
        split at he
        next => cases he
        next hi =>
          cases he
          simp only [beq_iff_eq] at ht
          obtain ⟨cell, h1, h2, h3, h4, h5⟩ := x_ald (j := 1) hR hK rfl ht (by omega) hi
          exact W.lald hx hb h1 h2 h3 h4 h5 rfl rfl hd (kk ls hl)
      next => cases he
    next => cases he
  case baload =>
    obtain rfl : len = 1 := by simp only [xlen] at hlen; omega
    simp only [xpure, xald] at he
    split at he
    next i a r =>
      split at he
      next ht =>
        split at he
        next => cases he
        next hi =>
          cases he
          simp only [Bool.or_eq_true, beq_iff_eq] at ht
          rcases ht with ht | ht
          · obtain ⟨cell, h1, h2, h3, h4, h5⟩ := x_ald (j := 2) hR hK rfl ht (by omega) hi
            exact W.bald hx hb h1 h2 h3 h4 h5 rfl rfl hd (kk ls hl)
          · obtain ⟨cell, h1, h2, h3, h4, h5⟩ := x_ald (j := 3) hR hK rfl ht (by omega) hi
            exact W.zald hx hb h1 h2 h3 h4 h5 rfl rfl hd (kk ls hl)
      next => cases he
    next => cases he
  case aaload =>
    obtain rfl : len = 1 := by simp only [xlen] at hlen; omega
    simp only [xpure, xald] at he
    split at he
    next i a r =>
      split at he
      next ht =>
        split at he
        next => cases he
        next hi =>
          cases he
          simp only [Bool.and_eq_true, decide_eq_true_eq] at ht
          have hj : (h.1 a).1 = 24 ∨ (h.1 a).1 = 25 ∨ (h.1 a).1 = 26 ∨ (h.1 a).1 = 27 := by omega
          rcases hj with hj | hj | hj | hj
          · obtain ⟨cell, h1, h2, h3, h4, h5⟩ := x_ald (j := 4) hR hK rfl hj (by omega) hi
            exact W.aald hx hb h1 h2 rfl h3 h4 h5 rfl rfl hd (kk ls hl)
          · obtain ⟨cell, h1, h2, h3, h4, h5⟩ := x_ald (j := 5) hR hK rfl hj (by omega) hi
            exact W.aald hx hb h1 h2 rfl h3 h4 h5 rfl rfl hd (kk ls hl)
          · obtain ⟨cell, h1, h2, h3, h4, h5⟩ := x_ald (j := 6) hR hK rfl hj (by omega) hi
            exact W.aald hx hb h1 h2 rfl h3 h4 h5 rfl rfl hd (kk ls hl)
          · obtain ⟨cell, h1, h2, h3, h4, h5⟩ := x_ald (j := 7) hR hK rfl hj (by omega) hi
            exact W.aald hx hb h1 h2 rfl h3 h4 h5 rfl rfl hd (kk ls hl)
      next => cases he
    next => cases he
  case getfield idx =>
    obtain rfl : len = 3 := by simp only [xlen] at hlen; omega
    simp only [xpure, xgetf] at he
    split at he
    next ci k a r hf =>
      split at he
      next ht =>
        cases he
        obtain ⟨hw, h3, h17, hk⟩ := x_fR hf
        obtain ⟨hS, hfc, kC, hkC, hkind⟩ := hK.1.1 ci _ (x_cl ci h17)
        obtain ⟨cf, kf, fi, f, hi, hsl⟩ := hS k hk
        obtain ⟨-, cell, q1, q2, q3, q4⟩ := x_obj hR ht h17
        refine W.getf hx hb hown (hts _ hw) hi (u_facts hfc hkC (u_lays hts (x_lay ci h3 h17) hk) hi).1 q1 (by rw [q3]; exact fun h => by cases h) ?_ rfl rfl hd (kk ls hl)
        rw [hsl]; exact q4 k hk
      next => cases he
    next => cases he
  case checkcast idx =>
    obtain rfl : len = 3 := by simp only [xlen] at hlen; omega
    simp only [xpure] at he
    split at he
    next ci a r hf =>
      split at he
      next ht =>
        cases he
        obtain ⟨h3, h17⟩ := x_kT_ok _ (x_look hf)
        obtain ⟨hS, hfc, kC, hkC, hkind⟩ := hK.1.1 ci _ (x_cl ci h17)
        obtain ⟨-, cell, q1, q2, q3, q4⟩ := x_obj hR ht h17
        exact va_castS hx hb hown (hts _ (x_kR hf)) ⟨hfc, kC, hkC, hkind⟩ ⟨cell, q1, by rw [q3]; rfl, by rw [q2]; exact hfc⟩ hd (kk ls hl)
      next => cases he
    next => cases he
  all_goals (simp only [xpure] at he; cases he)
end XS2
