/-! ===== what each instruction does is what the machine does ===== -/
section XSE
variable {sg : Nat → Option xM} {M : xM} {F r : xK} {pc : Nat} {L : xLD} {ini : Bool} {g : Int → Option Nat}
theorem xIf_ok {b : Bool} {f : xF} (h : b = true → xOK sg M F (pc, f) r) : xOK sg M F (pc, xIf b f) r := by
  cases b with
  | false => exact xok_none
  | true => exact h rfl
theorem xGo_ok {o : Option Nat} {c : List Value → Option (Bool × List Value)} (h : ∀ t, o = some t → xOK sg M F (pc, xBr c t) r) : xOK sg M F (pc, xGo o c) r := by
  cases o with
  | none => exact xok_none
  | some t => exact h t rfl
theorem xTs_ok {dflt lo hi : Int} {offs : Array Int} {len : Nat} (hd : decode M.2.1 pc = .ok (.tableswitch dflt lo hi offs, len)) (hg : ∀ off t, g off = some t → (pc : Int) + off = ((xpc (F.drop t) : Nat) : Int)) : xOK sg M F (pc, xTs lo hi offs.toList dflt g) r := by
  refine xOK_l ?_
  intro l b aS D cT d calls hcl p e s m args below meth c res C σ z hz
  obtain ⟨loc, st, hh, cs, sl⟩ := σ
  simp only [xTs] at hz
  split at hz
  · rename_i x st'
    split at hz
    · rename_i hx
      split at hz
      · rename_i t ht
        cases hz
        refine ⟨_, rfl, fun g1 => ⟨g1.1, g1.2.1, fun H locs ls hI hl => ?_⟩⟩
        exact lv_tableOut C.1 C.2.1 hd hx (hg _ _ ht) (g1.2.2 H locs ls hI hl)
      · cases hz
    · rename_i hx
      split at hz
      · rename_i off ho
        split at hz
        · rename_i t ht
          cases hz
          refine ⟨_, rfl, fun g1 => ⟨g1.1, g1.2.1, fun H locs ls hI hl => ?_⟩⟩
          exact lv_tableIn C.1 C.2.1 hd (fun h => hx (Or.inl h)) (fun h => hx (Or.inr h)) (by rw [← Array.getElem?_toList]; exact ho) (hg _ _ ht) (g1.2.2 H locs ls hI hl)
        · cases hz
      · cases hz
  · cases hz
theorem xGm_ok {i : Nat} (hL : ∀ q ∈ L.1, xFk M.1.cls q) (hd : decode M.2.1 pc = .ok (.getfield i, 3)) (hn : xpc r = pc + 3) : xOK sg M F (pc, xGm (xlu i L.1)) r := by
  cases hq : xlu i L.1 with
  | none => exact xok_none
  | some q =>
    obtain ⟨Cn, T, N, ty0, h1, h2, h3, h4, h5, h6, h7⟩ := hL _ (xlu_mem _ hq)
    obtain ⟨ci, k, mo, t⟩ := q
    dsimp only at h1 h5 h6 h7
    match mo, h7 with
    | 0, h7 => exact xok_get hd h1 h2 h5 h7.2 hn
    | 1, h7 => exact xok_getN hd h1 h2 h5 h7.2.choose_spec hn
    | 2, h7 => exact xok_get hd h1 h2 h5 h7.2.2 hn
    | 3, h7 => exact xok_getN hd h1 h2 h5 h7.choose_spec hn
theorem xPm_ok {i : Nat} (hL : ∀ q ∈ L.1, xFk M.1.cls q) (hini : ini = true → M.1.name = "<init>") (hd : decode M.2.1 pc = .ok (.putfield i, 3)) (hn : xpc r = pc + 3) : xOK sg M F (pc, xPm ini (xlu i L.1)) r := by
  cases hq : xlu i L.1 with
  | none => exact xok_none
  | some q =>
    obtain ⟨Cn, T, N, ty0, h1, h2, h3, h4, h5, h6, h7⟩ := hL _ (xlu_mem _ hq)
    obtain ⟨ci, k, mo, t⟩ := q
    dsimp only at h1 h5 h6 h7
    match mo, h7 with
    | 0, h7 =>
      show xOK sg M F (pc, xPut ci k t) r
      rw [← h6]
      exact xok_put hd h1 h2 h3 h4 h5 h7.1 h7.2 hn
    | 1, h7 =>
      show xOK sg M F (pc, xPut ci k t) r
      rw [← h6]
      exact xok_putN hd h1 h2 h3 h4 h5 h7.1 h7.2.choose_spec hn
    | 2, h7 =>
      show xOK sg M F (pc, xIf ini (xPut ci k t)) r
      refine xIf_ok (fun hi => ?_)
      rw [← h6]
      exact xok_putF hd h1 h2 h3 h4 h5 h7.1 (hini hi) h7.2.1 h7.2.2 hn
    | 3, h7 => exact xok_none
theorem xSm_ok {i : Nat} (hL : ∀ q ∈ L.2.1, xMk sg M.1.cls q) (hd : decode M.2.1 pc = .ok (.invokestatic i, 3)) (hn : xpc r = pc + 3) : xOK sg M F (pc, xSm (xlu i L.2.1)) r := by
  cases hq : xlu i L.2.1 with
  | none => exact xok_none
  | some q =>
    have h := hL _ (xlu_mem _ hq)
    obtain ⟨mo, j, n, ci⟩ := q
    unfold xMk at h
    dsimp only at h
    match mo, h with
    | 0, h =>
      obtain ⟨M', h1, h2, h3, h4⟩ := h
      exact xok_callS h1 hd h2 h3 h4 hn
    | 1, h => exact xok_none
    | 2, h => exact xok_none
    | 3, h => exact xok_none
    | 4, h => exact xok_none
    | 5, h => exact xok_mmax hd h hn
    | 6, h => exact xok_mmin hd h hn
    | 7, h => exact xok_none
    | 8, h => exact xok_none
    | 9, h => exact xok_acp hd h (xT_c1 136 rfl rfl) (xT_c1 135 rfl rfl) (xT_c1 7 rfl rfl) hn
    | 10, h => exact xok_none
theorem xVm_ok {i : Nat} (hL : ∀ q ∈ L.2.1, xMk sg M.1.cls q) (hd : decode M.2.1 pc = .ok (.invokevirtual i, 3)) (hn : xpc r = pc + 3) : xOK sg M F (pc, xVm (xlu i L.2.1)) r := by
  cases hq : xlu i L.2.1 with
  | none => exact xok_none
  | some q =>
    have h := hL _ (xlu_mem _ hq)
    obtain ⟨mo, j, n, ci⟩ := q
    unfold xMk at h
    dsimp only at h
    match mo, h with
    | 0, h => exact xok_none
    | 1, h =>
      obtain ⟨M', T, N, h1, h2, h3, h4, h5, h6⟩ := h
      exact xok_callV h1 h2 hd h3 h4 h5 h6 hn
    | 2, h => exact xok_none
    | 3, h => exact xok_none
    | 4, h => exact xok_none
    | 5, h => exact xok_none
    | 6, h => exact xok_none
    | 7, h => exact xok_lenS hd h hn
    | 8, h => exact xok_chS hd h hn
    | 9, h => exact xok_none
    | 10, h =>
      obtain ⟨M', T, N, h1, h2, h3, h4, h5, host, h6⟩ := h
      exact xok_callVN h1 h2 hd h3 h4 h5 h6 hn
theorem xDm_ok {i : Nat} (hL : ∀ q ∈ L.2.1, xMk sg M.1.cls q) (hd : decode M.2.1 pc = .ok (.invokespecial i, 3)) (hn : xpc r = pc + 3) : xOK sg M F (pc, xDm (xlu i L.2.1)) r := by
  cases hq : xlu i L.2.1 with
  | none => exact xok_none
  | some q =>
    have h := hL _ (xlu_mem _ hq)
    obtain ⟨mo, j, n, ci⟩ := q
    unfold xMk at h
    dsimp only at h
    match mo, h with
    | 0, h => exact xok_none
    | 1, h => exact xok_none
    | 2, h =>
      obtain ⟨M', h1, h2, h3, h4, h5, h6⟩ := h
      exact xok_callI h1 hd h2 h3 h4 h5 h6 hn
    | 3, h =>
      obtain ⟨M', h1, h2, h3, h4, h5, host, h6⟩ := h
      exact xok_callIN h1 hd h2 h3 h4 h5 h6 hn
    | 4, h => exact xok_obj hd h xw_o2 xw_o3 hn
    | 5, h => exact xok_none
    | 6, h => exact xok_none
    | 7, h => exact xok_none
    | 8, h => exact xok_none
    | 9, h => exact xok_none
    | 10, h => exact xok_none
theorem xSe_ok (hL : xLinks sg M.1.cls L) (hini : ini = true → M.1.name = "<init>") (hg : ∀ off t, g off = some t → (pc : Int) + off = ((xpc (F.drop t) : Nat) : Int)) (i : Instr) (hd : decode M.2.1 pc = .ok (i, xln i)) (hn : xpc r = pc + xln i) : xOK sg M F (pc, xSe L M.2.2.1 ini g i) r := by
  cases i with
  | aload_n k => exact xok_ld (xl_aload_n hd) hn
  | aload i => exact xok_ld (xl_aload hd) hn
  | iload_n k => exact xok_ld (xl_iload_n hd) hn
  | iload i => exact xok_ld (xl_iload hd) hn
  | lload_n k => exact xok_ld (xl_lload_n hd) hn
  | lload i => exact xok_ld (xl_lload hd) hn
  | istore_n k => exact xIf_ok (fun h => xok_st (xs_istore_n hd (Nat.le_of_ble_eq_true h)) hn)
  | istore i => exact xIf_ok (fun h => xok_st (xs_istore hd (Nat.le_of_ble_eq_true h)) hn)
  | astore_n k => exact xIf_ok (fun h => xok_st (xs_astore_n hd (Nat.le_of_ble_eq_true h)) hn)
  | astore i => exact xIf_ok (fun h => xok_st (xs_astore hd (Nat.le_of_ble_eq_true h)) hn)
  | lstore_n k => exact xIf_ok (fun h => xok_st (xs_lstore_n hd (Nat.le_of_ble_eq_true h)) hn)
  | lstore i => exact xIf_ok (fun h => xok_st (xs_lstore hd (Nat.le_of_ble_eq_true h)) hn)
  | iinc i n => exact xIf_ok (fun h => xok_inc hd (Nat.le_of_ble_eq_true h) hn)
  | iconst n => exact xok_p (xp_iconst hd rfl) hn
  | bipush n => exact xok_p (xp_bipush hd rfl) hn
  | sipush n => exact xok_p (xp_sipush hd rfl) hn
  | lconst n => exact xok_p (xp_lconst hd rfl) hn
  | ldc i =>
    show xOK sg M F (pc, xLm (xlu i L.2.2.1) (xlu i L.2.2.2.2.1)) r
    cases h1 : xlu i L.2.2.1 with
    | some v => exact xok_p (xp_ldc hd (hL.2.2.1 _ (xlu_mem _ h1))) hn
    | none =>
      cases h2 : xlu i L.2.2.2.2.1 with
      | some k => exact xok_p (xp_ldcS hd (hL.2.2.2.2.1 _ (xlu_mem _ h2)).choose_spec) hn
      | none => exact xok_none
  | ldc_w i =>
    show xOK sg M F (pc, xLm (xlu i L.2.2.1) none) r
    cases h1 : xlu i L.2.2.1 with
    | some v => exact xok_p (xp_ldcw hd (hL.2.2.1 _ (xlu_mem _ h1))) hn
    | none => exact xok_none
  | ldc2_w i =>
    dsimp only [xSe]
    cases h1 : xlu i L.2.2.2.1 with
    | some v => exact xok_p (xp_ldc2 hd (hL.2.2.2.1 _ (xlu_mem _ h1))) hn
    | none => exact xok_none
  | iadd => exact xok_p (xp_iadd hd) hn
  | isub => exact xok_p (xp_isub hd) hn
  | imul => exact xok_p (xp_imul hd) hn
  | idiv => exact xok_p (xp_idiv hd) hn
  | irem => exact xok_p (xp_irem hd) hn
  | iand => exact xok_p (xp_iand hd) hn
  | ior => exact xok_p (xp_ior hd) hn
  | ishl => exact xok_p (xp_ishl hd) hn
  | ishr => exact xok_p (xp_ishr hd) hn
  | ladd => exact xok_p (xp_ladd hd) hn
  | lmul => exact xok_p (xp_lmul hd) hn
  | ldiv => exact xok_p (xp_ldiv hd) hn
  | lrem => exact xok_p (xp_lrem hd) hn
  | lcmp => exact xok_p (xp_lcmp hd) hn
  | lshr => exact xok_p (xp_lshr hd) hn
  | lushr => exact xok_p (xp_lushr hd) hn
  | i2l => exact xok_p (xp_i2l hd) hn
  | l2i => exact xok_p (xp_l2i hd) hn
  | dup => exact xok_p (xp_dup hd) hn
  | dup2 => exact xok_p (xp_dup2 hd) hn
  | pop => exact xok_p (xp_pop hd) hn
  | ifCond c off =>
    refine xGo_ok (fun t ht => ?_)
    have h9 := hg _ _ ht
    cases c with
    | eq => exact xok_br (xb_eq hd h9) rfl hn
    | ne => exact xok_br (xb_ne hd h9) rfl hn
    | lt => exact xok_br (xb_lt hd h9) rfl hn
    | ge => exact xok_br (xb_ge hd h9) rfl hn
    | gt => exact xok_br (xb_gt hd h9) rfl hn
    | le => exact xok_br (xb_le hd h9) rfl hn
  | if_icmp c off =>
    refine xGo_ok (fun t ht => ?_)
    have h9 := hg _ _ ht
    cases c with
    | eq => exact xok_br (xb_ieq hd h9) rfl hn
    | ne => exact xok_br (xb_ine hd h9) rfl hn
    | lt => exact xok_br (xb_ilt hd h9) rfl hn
    | ge => exact xok_br (xb_ige hd h9) rfl hn
    | gt => exact xok_br (xb_igt hd h9) rfl hn
    | le => exact xok_br (xb_ile hd h9) rfl hn
  | getfield i => exact xGm_ok hL.1 hd hn
  | putfield i => exact xPm_ok hL.1 hini hd hn
  | new i =>
    dsimp only [xSe]
    cases h1 : xlu i L.2.2.2.2.2 with
    | none => exact xok_none
    | some ci =>
      obtain ⟨Cn, T, N, ty0, c1, c2, c3, c4, c5, c6, c7, c8⟩ := hL.2.2.2.2.2 _ (xlu_mem _ h1)
      dsimp only at c1 c4 c5 c6 ⊢
      rw [c5]
      refine xok_new hd c1 c2 c3 c4 ?_ c6 c7 c8 hn
      intro b aS
      have hm : ∀ (l : List (List Value)) (k : Nat), (∀ fs ∈ l, fs.map (xv b aS) = fs) → (l.getD k []).map (xv b aS) = l.getD k [] := by
        intro l k h
        rw [List.getD_eq_getElem?_getD]
        cases h9 : l[k]? with
        | none => rfl
        | some fs => exact h fs (List.mem_of_getElem? h9)
      exact hm xdfL ci (fun fs h => xdf_fix fs h b aS)
  | newarray t =>
    cases t with
    | int => exact xok_newa hd (xT_c1 58 rfl rfl) (Or.inl rfl) hn
    | long => exact xok_newa hd (xT_c7 195 rfl rfl) (Or.inr (Or.inl rfl)) hn
    | boolean => exact xok_newa hd (xT_c7 196 rfl rfl) (Or.inr (Or.inr rfl)) hn
    | _ => exact xok_none
  | anewarray i =>
    dsimp only [xSe]
    split
    · rename_i h1
      obtain ⟨Cn, T, N, ty0, c1, -, -, -, -, c6, -, -⟩ := hL.2.2.2.2.2 _ (xlu_mem _ h1)
      have c9 : Cn = RX6 := congrArg Prod.fst (Option.some.inj (c1.symm.trans (rfl : vwCl[6]? = some (RX6, TX6, 3))))
      rw [c9] at c6
      exact xok_newq hd c6 hn
    · exact xok_none
  | arraylength => exact xok_len hd hn
  | iaload => exact xok_ial hd hn
  | laload => exact xok_lal hd hn
  | baload => exact xok_zal hd hn
  | aaload => exact xok_aal hd hn
  | iastore => exact xok_ias hd hn
  | lastore => exact xok_las hd hn
  | bastore => exact xok_zas hd hn
  | aastore => exact xok_aas hd hn
  | invokestatic i => exact xSm_ok hL.2.1 hd hn
  | invokevirtual i => exact xVm_ok hL.2.1 hd hn
  | invokespecial i => exact xDm_ok hL.2.1 hd hn
  | _ => exact xok_none
end XSE
