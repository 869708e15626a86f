/-! ===== the end ===== -/
theorem xpr_all : ∀ q ∈ List.zip xsgL xprL, xwf xsg q.1 q.2 := by
  show ∀ q ∈ [(xm_0, xk_0_0), (xm_1, xk_1_0), (xm_2, xk_2_0), (xm_3, xk_3_0), (xm_4, xk_4_0), (xm_5, xk_5_0), (xm_6, xk_6_0), (xm_7, xk_7_0), (xm_8, xk_8_0), (xm_9, xk_9_0), (xm_10, xk_10_0), (xm_11, xk_11_0), (xm_12, xk_12_0), (xm_13, xk_13_0), (xm_14, xk_14_0), (xm_15, xk_15_0), (xm_16, xk_16_0), (xm_17, xk_17_0), (xm_18, xk_18_0), (xm_19, xk_19_0), (xm_20, xk_20_0), (xm_21, xk_21_0), (xm_22, xk_22_0), (xm_23, xk_23_0), (xm_24, xk_24_0), (xm_25, xk_25_0), (xm_26, xk_26_0), (xm_27, xk_27_0), (xm_28, xk_28_0), (xm_29, xk_29_0), (xm_30, xk_30_0), (xm_31, xk_31_0), (xm_32, xk_32_0), (xm_33, xk_33_0), (xm_34, xk_34_0), (xm_35, xk_35_0), (xm_36, xk_36_0), (xm_37, xk_37_0), (xm_38, xk_38_0), (xm_39, xk_39_0), (xm_40, xk_40_0), (xm_41, xk_41_0), (xm_42, xk_42_0), (xm_43, xk_43_0), (xm_44, xk_44_0), (xm_45, xk_45_0), (xm_46, xk_46_0), (xm_47, xk_47_0), (xm_48, xk_48_0), (xm_49, xk_49_0), (xm_50, xk_50_0), (xm_51, xk_51_0), (xm_52, xk_52_0), (xm_53, xk_53_0), (xm_54, xk_54_0), (xm_55, xk_55_0), (xm_56, xk_56_0), (xm_57, xk_57_0), (xm_58, xk_58_0), (xm_59, xk_59_0), (xm_60, xk_60_0), (xm_61, xk_61_0), (xm_62, xk_62_0), (xm_63, xk_63_0), (xm_64, xk_64_0), (xm_65, xk_65_0), (xm_66, xk_66_0), (xm_67, xk_67_0), (xm_68, xk_68_0), (xm_69, xk_69_0), (xm_70, xk_70_0), (xm_71, xk_71_0), (xm_72, xk_72_0), (xm_73, xk_73_0), (xm_74, xk_74_0), (xm_75, xk_75_0), (xm_76, xk_76_0), (xm_77, xk_77_0), (xm_78, xk_78_0), (xm_79, xk_79_0), (xm_80, xk_80_0), (xm_81, xk_81_0), (xm_82, xk_82_0), (xm_83, xk_83_0)], xwf xsg q.1 q.2
  exact List.forall_mem_cons.mpr ⟨xz_0, List.forall_mem_cons.mpr ⟨xz_1, List.forall_mem_cons.mpr ⟨xz_2, List.forall_mem_cons.mpr ⟨xz_3, List.forall_mem_cons.mpr ⟨xz_4, List.forall_mem_cons.mpr ⟨xz_5, List.forall_mem_cons.mpr ⟨xz_6, List.forall_mem_cons.mpr ⟨xz_7, List.forall_mem_cons.mpr ⟨xz_8, List.forall_mem_cons.mpr ⟨xz_9, List.forall_mem_cons.mpr ⟨xz_10, List.forall_mem_cons.mpr ⟨xz_11, List.forall_mem_cons.mpr ⟨xz_12, List.forall_mem_cons.mpr ⟨xz_13, List.forall_mem_cons.mpr ⟨xz_14, List.forall_mem_cons.mpr ⟨xz_15, List.forall_mem_cons.mpr ⟨xz_16, List.forall_mem_cons.mpr ⟨xz_17, List.forall_mem_cons.mpr ⟨xz_18, List.forall_mem_cons.mpr ⟨xz_19, List.forall_mem_cons.mpr ⟨xz_20, List.forall_mem_cons.mpr ⟨xz_21, List.forall_mem_cons.mpr ⟨xz_22, List.forall_mem_cons.mpr ⟨xz_23, List.forall_mem_cons.mpr ⟨xz_24, List.forall_mem_cons.mpr ⟨xz_25, List.forall_mem_cons.mpr ⟨xz_26, List.forall_mem_cons.mpr ⟨xz_27, List.forall_mem_cons.mpr ⟨xz_28, List.forall_mem_cons.mpr ⟨xz_29, List.forall_mem_cons.mpr ⟨xz_30, List.forall_mem_cons.mpr ⟨xz_31, List.forall_mem_cons.mpr ⟨xz_32, List.forall_mem_cons.mpr ⟨xz_33, List.forall_mem_cons.mpr ⟨xz_34, List.forall_mem_cons.mpr ⟨xz_35, List.forall_mem_cons.mpr ⟨xz_36, List.forall_mem_cons.mpr ⟨xz_37, List.forall_mem_cons.mpr ⟨xz_38, List.forall_mem_cons.mpr ⟨xz_39, List.forall_mem_cons.mpr ⟨xz_40, List.forall_mem_cons.mpr ⟨xz_41, List.forall_mem_cons.mpr ⟨xz_42, List.forall_mem_cons.mpr ⟨xz_43, List.forall_mem_cons.mpr ⟨xz_44, List.forall_mem_cons.mpr ⟨xz_45, List.forall_mem_cons.mpr ⟨xz_46, List.forall_mem_cons.mpr ⟨xz_47, List.forall_mem_cons.mpr ⟨xz_48, List.forall_mem_cons.mpr ⟨xz_49, List.forall_mem_cons.mpr ⟨xz_50, List.forall_mem_cons.mpr ⟨xz_51, List.forall_mem_cons.mpr ⟨xz_52, List.forall_mem_cons.mpr ⟨xz_53, List.forall_mem_cons.mpr ⟨xz_54, List.forall_mem_cons.mpr ⟨xz_55, List.forall_mem_cons.mpr ⟨xz_56, List.forall_mem_cons.mpr ⟨xz_57, List.forall_mem_cons.mpr ⟨xz_58, List.forall_mem_cons.mpr ⟨xz_59, List.forall_mem_cons.mpr ⟨xz_60, List.forall_mem_cons.mpr ⟨xz_61, List.forall_mem_cons.mpr ⟨xz_62, List.forall_mem_cons.mpr ⟨xz_63, List.forall_mem_cons.mpr ⟨xz_64, List.forall_mem_cons.mpr ⟨xz_65, List.forall_mem_cons.mpr ⟨xz_66, List.forall_mem_cons.mpr ⟨xz_67, List.forall_mem_cons.mpr ⟨xz_68, List.forall_mem_cons.mpr ⟨xz_69, List.forall_mem_cons.mpr ⟨xz_70, List.forall_mem_cons.mpr ⟨xz_71, List.forall_mem_cons.mpr ⟨xz_72, List.forall_mem_cons.mpr ⟨xz_73, List.forall_mem_cons.mpr ⟨xz_74, List.forall_mem_cons.mpr ⟨xz_75, List.forall_mem_cons.mpr ⟨xz_76, List.forall_mem_cons.mpr ⟨xz_77, List.forall_mem_cons.mpr ⟨xz_78, List.forall_mem_cons.mpr ⟨xz_79, List.forall_mem_cons.mpr ⟨xz_80, List.forall_mem_cons.mpr ⟨xz_81, List.forall_mem_cons.mpr ⟨xz_82, List.forall_mem_cons.mpr ⟨xz_83, fun _ h => absurd h List.not_mem_nil⟩⟩⟩⟩⟩⟩⟩⟩⟩⟩⟩⟩⟩⟩⟩⟩⟩⟩⟩⟩⟩⟩⟩⟩⟩⟩⟩⟩⟩⟩⟩⟩⟩⟩⟩⟩⟩⟩⟩⟩⟩⟩⟩⟩⟩⟩⟩⟩⟩⟩⟩⟩⟩⟩⟩⟩⟩⟩⟩⟩⟩⟩⟩⟩⟩⟩⟩⟩⟩⟩⟩⟩⟩⟩⟩⟩⟩⟩⟩⟩⟩⟩⟩⟩
theorem xpr_ok : ∀ i M F, xsg i = some M → xpr i = some F → xwf xsg M F := by
  intro i M F h1 h2
  have h3 : (List.zip xsgL xprL)[i]? = some (M, F) := List.getElem?_zip_eq_some.mpr ⟨h1, h2⟩
  exact xpr_all (M, F) (List.mem_of_getElem? h3)
theorem whole_start {p : Program} {e : Env} {s : State} {m : MethodId} {below : List Frame} {meth : Method} {c : Code} (l : Launch) {b L : Nat} {xs : Nat → Int32} (hL : L ≤ 7) (C0 : lw_At p s m meth c b L xs) : W p l e room_1 s m #[Value.ref b] below meth c s.heap [] 0 0 (lw_Z below #[Value.ref b] s) (entryFrame m ([Value.ref b] : List Value).toArray 4) := lx_start xpr_ok l hL C0
-- ===== YOUR PART ENDS =====
set_option maxHeartbeats 4000000 in
theorem lw_walk (l : Launch) (b : Addr) (xs : List Int32) : MetFree l x (headSpec (Jvm.Cond.code x code maxLocals ret :: tables_1) room_1) (lw_P b xs) (fun _ _ _ _ _ => True) lw_Q := by
  refine MetFree.of_bodyS (code := code) (maxLocals := maxLocals) (ret := ret) (by decide) ?_ ?_
  · intro args s m h hn
    obtain ⟨meth, c, h1, h2, h3, h4, h5, h6, -, -⟩ := Cond.code_spec hn (atoms_spec (ws := Jvm.Cond.code x code maxLocals ret :: tables_1) h _ List.mem_cons_self)
    exact ⟨meth, c, h1, h2, h3, h4, h5, h6⟩
  · intro p e s m args below meth c s₁ B hml0 hP _
    obtain ⟨rfl, hx, hbd, hgv⟩ := hP
    obtain ⟨scr, harrAt, hlist, hof, hsmall⟩ := hx
    obtain ⟨hcb, hkn, -, -⟩ := State.arrayAt?_spec harrAt
    have hown : s.vm.findClass R_law = some m.cls := findClass_of_methodNamed B.named
    have hts0 : ∀ c ∈ (Jvm.Cond.code x code maxLocals ret :: tables_1), c.before #[Value.ref b] s = true := atoms_spec (ws := Jvm.Cond.code x code maxLocals ret :: tables_1) B.pre
    have hts : ∀ w ∈ lw_tbl, w.before #[Value.ref b] s = true := k2_hts_sels lw_privs (fun w hw => hts0 w (List.mem_cons_of_mem _ hw)) lw_privs_ok
    have hml : c.maxLocals = 4 := B.maxLocals_eq (hts0 _ List.mem_cons_self)
    have X₀ : Stand p l e room_1 s m #[Value.ref b] below meth c s₁ [] 0 0 := Stand.of_body B
    have hh0 : s₁.heap = s.heap := by rw [B.state]; rfl
    have hsz : scr.slots.size = xs.length := by rw [← Array.length_toList, hlist, List.length_map]
    have hval : ∀ j : Nat, j < xs.length → scr.slots[j]? = some (.int (xs.getD j 0)) := fun j hj => by
      rw [← Array.getElem?_toList, hlist]
      simp [hj]
    have hbl : b < s.heap.size := (Array.getElem?_eq_some_iff.mp hcb).1
    have hX : va_X b xs.length (fun j => xs.getD j 0) s s.heap := ⟨scr, hcb, hof, hkn, hsz, hval⟩
    have K : W p l e room_1 s m #[Value.ref b] below meth c s₁.heap [] 0 0 (lw_Z below #[Value.ref b] s) (entryFrame m ([Value.ref b] : List Value).toArray 4) := by
      rw [hh0]
      exact whole_start l hbd ⟨B.exec, B.bytes, B.returns, hml, hown, hts, hX, hbl, B.notSynchronized, hgv⟩
    obtain ⟨t, a1, o, b1, b2, b3⟩ := K s₁ rfl X₀
    exact ⟨t, o, a1, b1, b2, b3⟩
theorem lw_pre_spec {args : Array Value} {s : State} (h : (Jvm.Cond.and given_1 narrow_1).before args s = true) (hr : rest_1_c.before args s = true) : ∃ (b : Addr) (xs : List Int32), lw_P b xs args s := by
  have hs := flat_of_before _ h
  have hq := flat_of_before _ hr
  have hc : (Cond.count 1).before args s = true := hs _ (by decide +kernel)
  have harr : (Cond.arrayOf (.arg 0) .int).before args s = true := hs _ (by decide +kernel)
  have hle : (Cond.le (.length (.arg 0)) (.int 7)).before args s = true := hs _ (by decide +kernel)
  have hlen : (Cond.isInt (.length (.arg 0))).before args s = true := hq _ (by decide +kernel)
  have hall : (Cond.all (.arg 0) (.isInt (.elem (.arg 0) (.index 0)))).before args s = true := hq _ (by decide +kernel)
  obtain ⟨b, xs, hb, hx⟩ := State.ints_of_pre rfl harr hlen hall
  have hsm : xs.length < 2 ^ 31 := hx.choose_spec.2.2.2
  have hev : (Term.length (.arg 0)).eval args s none [] s = some (.int xs.length.toInt32) := hx.length_eval hb
  have hv := Cond.le_ints hev (show (Term.int 7).eval args s none [] s = some (.int 7) from rfl)
  have hd : xs.length.toInt32 ≤ 7 := by
    simpa [Cond.before, Cond.holds, hv] using hle
  have hN : xs.length ≤ 7 := (Int32.ofNat_le_ofNat hsm (by decide)).mp (show Int32.ofNat xs.length ≤ Int32.ofNat 7 from hd)
  exact ⟨b, xs, Cond.one_arg hc (show args[0]? = some (.ref b) from hb), hx, hN, h⟩
theorem lw_comes (l : Launch) : Comes l x (Jvm.Cond.code x code maxLocals ret :: tables_1) room_1 (fun tb e args s => Calls_1 tb e args s ∧ rest_1 tb e args s ∧ Pre_1 tb e args s)
    (fun _ _ args s o t => lw_Q args s o t) := by
  intro p e ha hc hk s m args below hf hfit hheap happ hpre
  obtain ⟨b, xs, hP⟩ := lw_pre_spec hpre.2.2 hpre.2.1
  obtain ⟨k, o, h1, h2, h3, hQ⟩ := lw_walk l b xs p e ha hc hk s m args below hf ((Spec.applies_iff_loose hf).mp happ).1 hP trivial
  exact ⟨k, o, h1, h2, h3, hQ⟩
theorem lw_frame {s t : State} {o : Outcome} {args : Array Value} (h : Framed s o t [] 600000 7302250) :
    Framed s o t (fieldLocs frame_1_writes args s ++ arrayLocs frame_1_arrays args s ++ staticLocs frame_1_statics s) 600000 7302250 := h
theorem lw_limb (L : Cond) (hL : ∀ (args : Array Value) (s t : State), L.after args s (.returned (some (.int 1))) t = true) :
    ArmFor flags0 classFile x code maxLocals ret World_1 tables_1 room_1 Calls_1 rest_1 Pre_1
      (fun tb e a s o t => postC L tb e a s o t ∧ Framed s o t (fieldLocs frame_1_writes a s ++ arrayLocs frame_1_arrays a s ++ staticLocs frame_1_statics s) 600000 7302250) := by
  intro l _ _ _ p e ha hc hk s m args below hf hfit hheap happ hpre
  obtain ⟨k, o, h1, h2, h3, rfl, hF⟩ := lw_comes l p e ha hc hk s m args below hf hfit hheap happ hpre
  exact ⟨k, _, h1, h2, h3, hL args s _, lw_frame hF⟩
theorem i_vc : Claimed_1_1 ∧ Claimed_1_2 := ⟨lw_limb limb_1_1 (fun args s t => by simp [limb_1_1, Cond.after, Cond.holds, Cond.value]), lw_limb limb_1_2 (fun args s t => Cond.after_iff.mpr (by
  first | (rw [show limb_1_2 = Cond.eq .result (.int 1) from rfl, Cond.eq_ints (x := 1) (y := 1) rfl rfl]; simp; done) | (simp [limb_1_2, Cond.value, Term.eval]; done)))⟩
