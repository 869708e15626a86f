/-! ===== the text: length and charAt, by the JDK's own code ===== -/
def xQr (v : Option Value) : Array Value → State → Outcome → State → Prop := fun _ st o t => o = .returned v ∧ t.heap = st.heap
def xrs (k : Nat) : Room := { frames := k, cells := 0, slots := 0, locals := 100 * k }
def xSP (b : Nat) (aS : Nat → Nat) (U : State) : Prop := xStr b aS U U.heap
theorem xSP_blind {b : Nat} {aS : Nat → Nat} {vs : List Value} : FrameBlind (va_Pc vs (xSP b aS)) := fun _ U g mk q => ⟨q.1, xStr_same (u := U) (U := U.calling g mk _) rfl q.2⟩
theorem xSP_at {b : Nat} {aS : Nat → Nat} {vs : List Value} {s : State} {H : Heap} {locs : List Loc} (h : xSP b aS s) (hS : va_S (xA b) s.heap H locs) : ∀ U : State, U.heap = H → s.WarmedH U.vm → va_Pc vs (xSP b aS) vs.toArray U := fun U hU hW => ⟨rfl, by show xStr b aS U U.heap; rw [hU]; exact xStr_warm hW (xStr_kept h hS.2.1)⟩
def mJ_coder : xM := (yJ0_coder_7d493, cJ0_coder_7d493, 1, some .byte)
def mJ_length : xM := (yJ0_length_8abf5, cJ0_length_8abf5, 1, some .int)
def mJ_isLatin1 : xM := (yJ0_isLatin1_aae02, cJ0_isLatin1_aae02, 1, some .boolean)
def mJ_pcheck : xM := (yJ3_checkIndex_8e157, cJ3_checkIndex_8e157, 3, some .int)
def mJ_scheck : xM := (yJ0_checkIndex_df160, cJ0_checkIndex_df160, 2, none)
def mJ_lcharAt : xM := (yJ1_charAt_3b067, cJ1_charAt_3b067, 2, some .char)
def mJ_charAt : xM := (yJ0_charAt_5068e, cJ0_charAt_5068e, 2, some .char)
theorem bJ_coder : xcB mJ_coder 0 := ⟨(xT_in 780 (by decide +kernel) rfl), (xT_in 183 (by decide +kernel) rfl), by decide +kernel, by decide⟩
theorem bJ_length : xcB mJ_length 0 := ⟨(xT_in 776 (by decide +kernel) rfl), (xT_in 183 (by decide +kernel) rfl), by decide +kernel, by decide⟩
theorem bJ_isLatin1 : xcB mJ_isLatin1 0 := ⟨(xT_in 790 (by decide +kernel) rfl), (xT_in 183 (by decide +kernel) rfl), by decide +kernel, by decide⟩
theorem bJ_pcheck : xcB mJ_pcheck 3 := ⟨(xT_in 801 (by decide +kernel) rfl), (xT_in 185 (by decide +kernel) rfl), by decide +kernel, by decide⟩
theorem bJ_scheck : xcB mJ_scheck 2 := ⟨(xT_in 796 (by decide +kernel) rfl), (xT_in 183 (by decide +kernel) rfl), by decide +kernel, by decide⟩
theorem bJ_lcharAt : xcB mJ_lcharAt 2 := ⟨(xT_in 793 (by decide +kernel) rfl), (xT_in 184 (by decide +kernel) rfl), by decide +kernel, by decide⟩
theorem bJ_charAt : xcB mJ_charAt 1 := ⟨(xT_in 786 (by decide +kernel) rfl), (xT_in 183 (by decide +kernel) rfl), by decide +kernel, by decide⟩
section XZ
variable {p : Program} {l : Launch} {e : Env} {R : Room} {s : State} {m : MethodId} {args : Array Value} {below : List Frame} {meth : Method} {c : Code} {H : Heap} {locs : List Loc} {cells slots : Nat} {Q : State → Prop} {b : Nat} {aS : Nat → Nat}
theorem xcallR {pc : Nat} {ls : Array Slot} {st0 rest : List Value} {a : Array Value} {v : Option Value} (hr : va_Run p l e R s m args below meth c H locs cells slots 0 0 (F0 m pc ls st0) rest (xQr v a) (fun _ => False))
    (kk : W p l e R s m args below meth c H locs cells slots Q (F0 m (pc + 3) ls (v.toList ++ rest))) : W p l e R s m args below meth c H locs cells slots Q (F0 m pc ls st0) := by
  intro T hT X
  obtain ⟨v', st₀, t, T', L, h0, X', hL, e1, e2, ⟨hv, hh⟩, st⟩ := hr T hT X
  have hv2 : v' = v := Outcome.returned.inj hv
  subst hv2
  have hL0 : L = [] := by
    cases L with
    | nil => rfl
    | cons q L => exact absurd (hL q List.mem_cons_self) id
  subst hL0
  rw [List.append_nil] at X'
  obtain ⟨t2, a1, b1⟩ := kk T' (by rw [e1, hh, h0]) X'
  exact ⟨t2, st t2 a1, b1⟩
end XZ
/-- how long a text is -/
def xnS (k : Nat) : Int32 := Int32.ofNat (xsl.getD k 0)
theorem xnS_lt : ∀ k, k < 7 → xsl.getD k 0 < 2 ^ 31 := by decide
theorem xnS_sh : ∀ k, k < 7 → xnS k >>> ((0 : Int32) &&& 31) = xnS k := by decide +kernel
set_option maxRecDepth 20000 in
theorem cJ_coder (l : Launch) (b : Nat) (aS : Nat → Nat) (k : Nat) (hk : k < 7) : Met l mJ_coder.1 (xws mJ_coder) (xrs 0) (va_Pc [.ref (aS k)] (xSP b aS)) (xQr (some (.int 0))) 0 0 (fun _ => False) := by
  refine Met.ofW (cc := cJ0_coder_7d493) (maxL := 1) (ret := some .byte) (by decide) rfl ?_
  intro p e s m args below meth c s₁ B hml hv
  obtain ⟨rfl, hSt⟩ := hv
  have hx := B.exec
  have hb := B.bytes
  have hr := B.returns
  have hts0 := atoms_spec (ws := xws mJ_coder) B.pre
  have hts : ∀ w ∈ xT, w.before _ s = true := fun w hw => hts0 w (List.mem_cons_of_mem _ hw)
  have hown : s.vm.findClass RJ0 = some m.cls := findClass_of_methodNamed B.named
  have hlocks := B.notSynchronized
  obtain ⟨z1, z2, z3, adV, z5⟩ := hSt
  have hS : va_S (xA b) s.heap s.heap [] := va_S.rf
  have hl := lv_entry ([.ref (aS k)]) (n := 1) (Nat.le_of_ble_eq_true rfl)
  rw [lg_entry_eq]
  generalize (lg_sl ([.ref (aS k)]) ++ List.replicate (1 - (lg_sl ([.ref (aS k)])).length) Slot.unset).toArray = ls at hl ⊢
  have hl : lv_has ls 1 [(0, .ref (aS k))] := hl
  refine va_gets hx hb z2 hS hown (hts (.fieldLink RJ0 38 "java/lang/String" "COMPACT_STRINGS" "Z") (xT_in 781 (by decide +kernel) rfl)) (fun _ h => h) (show decode cJ0_coder_7d493 0 = .ok (.getstatic 38, 3) by decide +kernel) ?_
  refine lv_if_eq (tgt := 13) hx hb (show decode cJ0_coder_7d493 3 = .ok (.ifCond .eq 10, 3) by decide +kernel) (by decide) (fun h => absurd h (by decide)) (fun _ => ?_)
  refine lv_aload_n hx hb (show decode cJ0_coder_7d493 6 = .ok (.aload_n 0, 1) by decide +kernel) rfl (lv_at hl 0 rfl) ?_
  refine vk_getf hx hb (z5.1 k hk).2.1 hS hown (hts (.fieldLink RJ0 15 "java/lang/String" "coder" "B") (xT_in 2272 (by decide +kernel) rfl)) (fun _ h => h) (show decode cJ0_coder_7d493 7 = .ok (.getfield 15, 3) by decide +kernel) ?_
  refine lv_goto (tgt := 14) hx hb (show decode cJ0_coder_7d493 10 = .ok (.goto 4, 3) by decide +kernel) (by decide) ?_
  exact W.zret (v := 0) hx hb hr rfl (fun t ht _ => ⟨rfl, ht⟩) (fun q hq => by cases hq) (show decode cJ0_coder_7d493 14 = .ok (.ireturn, 1) by decide +kernel)
set_option maxRecDepth 20000 in
theorem cJ_isLatin1 (l : Launch) (b : Nat) (aS : Nat → Nat) (k : Nat) (hk : k < 7) : Met l mJ_isLatin1.1 (xws mJ_isLatin1) (xrs 0) (va_Pc [.ref (aS k)] (xSP b aS)) (xQr (some (.int 1))) 0 0 (fun _ => False) := by
  refine Met.ofW (cc := cJ0_isLatin1_aae02) (maxL := 1) (ret := some .boolean) (by decide) rfl ?_
  intro p e s m args below meth c s₁ B hml hv
  obtain ⟨rfl, hSt⟩ := hv
  have hx := B.exec
  have hb := B.bytes
  have hr := B.returns
  have hts0 := atoms_spec (ws := xws mJ_isLatin1) B.pre
  have hts : ∀ w ∈ xT, w.before _ s = true := fun w hw => hts0 w (List.mem_cons_of_mem _ hw)
  have hown : s.vm.findClass RJ0 = some m.cls := findClass_of_methodNamed B.named
  have hlocks := B.notSynchronized
  obtain ⟨z1, z2, z3, adV, z5⟩ := hSt
  have hS : va_S (xA b) s.heap s.heap [] := va_S.rf
  have hl := lv_entry ([.ref (aS k)]) (n := 1) (Nat.le_of_ble_eq_true rfl)
  rw [lg_entry_eq]
  generalize (lg_sl ([.ref (aS k)]) ++ List.replicate (1 - (lg_sl ([.ref (aS k)])).length) Slot.unset).toArray = ls at hl ⊢
  have hl : lv_has ls 1 [(0, .ref (aS k))] := hl
  refine va_gets hx hb z2 hS hown (hts (.fieldLink RJ0 38 "java/lang/String" "COMPACT_STRINGS" "Z") (xT_in 781 (by decide +kernel) rfl)) (fun _ h => h) (show decode cJ0_isLatin1_aae02 0 = .ok (.getstatic 38, 3) by decide +kernel) ?_
  refine lv_if_eq (tgt := 17) hx hb (show decode cJ0_isLatin1_aae02 3 = .ok (.ifCond .eq 14, 3) by decide +kernel) (by decide) (fun h => absurd h (by decide)) (fun _ => ?_)
  refine lv_aload_n hx hb (show decode cJ0_isLatin1_aae02 6 = .ok (.aload_n 0, 1) by decide +kernel) rfl (lv_at hl 0 rfl) ?_
  refine vk_getf hx hb (z5.1 k hk).2.1 hS hown (hts (.fieldLink RJ0 15 "java/lang/String" "coder" "B") (xT_in 2272 (by decide +kernel) rfl)) (fun _ h => h) (show decode cJ0_isLatin1_aae02 7 = .ok (.getfield 15, 3) by decide +kernel) ?_
  refine lv_if_ne (tgt := 17) hx hb (show decode cJ0_isLatin1_aae02 10 = .ok (.ifCond .ne 7, 3) by decide +kernel) (by decide) (fun h => absurd rfl h) (fun _ => ?_)
  refine lv_iconst (v := 1) hx hb (show decode cJ0_isLatin1_aae02 13 = .ok (.iconst 1, 1) by decide +kernel) (by decide) ?_
  refine lv_goto (tgt := 18) hx hb (show decode cJ0_isLatin1_aae02 14 = .ok (.goto 4, 3) by decide +kernel) (by decide) ?_
  exact W.zret (v := 1) hx hb hr rfl (fun t ht _ => ⟨rfl, ht⟩) (fun q hq => by cases hq) (show decode cJ0_isLatin1_aae02 18 = .ok (.ireturn, 1) by decide +kernel)
set_option maxRecDepth 20000 in
theorem cJ_length (l : Launch) (b : Nat) (aS : Nat → Nat) (k : Nat) (hk : k < 7) : Met l mJ_length.1 (xws mJ_length) (xrs 1) (va_Pc [.ref (aS k)] (xSP b aS)) (xQr (some (.int (xnS k)))) 0 0 (fun _ => False) := by
  refine Met.ofW (cc := cJ0_length_8abf5) (maxL := 1) (ret := some .int) (by decide) rfl ?_
  intro p e s m args below meth c s₁ B hml hv
  obtain ⟨rfl, hSt⟩ := hv
  have hx := B.exec
  have hb := B.bytes
  have hr := B.returns
  have hts0 := atoms_spec (ws := xws mJ_length) B.pre
  have hts : ∀ w ∈ xT, w.before _ s = true := fun w hw => hts0 w (List.mem_cons_of_mem _ hw)
  have hown : s.vm.findClass RJ0 = some m.cls := findClass_of_methodNamed B.named
  have hlocks := B.notSynchronized
  have hSP := hSt
  obtain ⟨z1, z2, z3, adV, z5⟩ := hSt
  have hS : va_S (xA b) s.heap s.heap [] := va_S.rf
  have hl := lv_entry ([.ref (aS k)]) (n := 1) (Nat.le_of_ble_eq_true rfl)
  rw [lg_entry_eq]
  generalize (lg_sl ([.ref (aS k)]) ++ List.replicate (1 - (lg_sl ([.ref (aS k)])).length) Slot.unset).toArray = ls at hl ⊢
  have hl : lv_has ls 1 [(0, .ref (aS k))] := hl
  refine lv_aload_n hx hb (show decode cJ0_length_8abf5 0 = .ok (.aload_n 0, 1) by decide +kernel) rfl (lv_at hl 0 rfl) ?_
  refine vk_getf hx hb (z5.1 k hk).2.2.1 hS hown (hts (.fieldLink RJ0 9 "java/lang/String" "value" "[B") (xT_in 2271 (by decide +kernel) rfl)) (fun _ h => h) (show decode cJ0_length_8abf5 1 = .ok (.getfield 9, 3) by decide +kernel) ?_
  refine va_tlen (v := xnS k) hx hb (z5.1 k hk).2.2.2 hS rfl (show decode cJ0_length_8abf5 4 = .ok (.arraylength, 1) by decide +kernel) ?_
  refine lv_aload_n hx hb (show decode cJ0_length_8abf5 5 = .ok (.aload_n 0, 1) by decide +kernel) rfl (lv_at hl 0 rfl) ?_
  refine xcallR (va_runV (C := RJ0) (As := []) (rest := [.int (xnS k)]) ⟨hx, hb, hml, hown, hts⟩ (cJ_coder l b aS k hk) ⟨callB_of 0 hts (xws_good bJ_coder) rfl rfl rfl (hts _ bJ_coder.2.1) (hts (.methodLink RJ0 335 mJ_coder.1) (xT_in 777 (by decide +kernel) rfl)) bJ_coder.2.2.1 ⟨Nat.le_of_ble_eq_true rfl, Nat.le_of_ble_eq_true rfl⟩, hts (.instanceMethod mJ_coder.1) (xT_in 778 (by decide +kernel) rfl), hts (.selects RJ0 mJ_coder.1 mJ_coder.1) (xT_in 779 (by decide +kernel) rfl)⟩ ⟨xSP_blind, vk_recv z5 hk hS, xSP_at (vs := [.ref (aS k)]) hSP hS⟩ rfl rfl hl.1 rfl (lv_room (Nat.le_of_ble_eq_true rfl)) (show decode cJ0_length_8abf5 6 = .ok (.invokevirtual 335, 3) by decide +kernel) ⟨Nat.le_refl _, Nat.le_refl _⟩) ?_
  refine lv_ishr hx hb (show decode cJ0_length_8abf5 9 = .ok (.ishr, 1) by decide +kernel) ?_
  refine W.eq (g2 := F0 m 10 ls [.int (xnS k)]) (by rw [xnS_sh k hk]) ?_
  exact W.iret (v := xnS k) hx hb hr (fun t ht _ => ⟨rfl, ht⟩) (fun q hq => by cases hq) (show decode cJ0_length_8abf5 10 = .ok (.ireturn, 1) by decide +kernel)
set_option maxRecDepth 20000 in
theorem cJ_pcheck (l : Launch) (b : Nat) (aS : Nat → Nat) (i n : Int32) (v : Value) (hv9 : v = .null ∨ ∃ t, v = .ref t) (h0 : ¬ i < 0) (h1 : i < n) : Met l mJ_pcheck.1 (xws mJ_pcheck) (xrs 0) (va_Pc [.int i, .int n, v] (xSP b aS)) (xQr (some (.int i))) 0 0 (fun _ => False) := by
  refine Met.ofW (cc := cJ3_checkIndex_8e157) (maxL := 3) (ret := some .int) (by decide) rfl ?_
  intro p e s m args below meth c s₁ B hml hv
  obtain ⟨rfl, hSt⟩ := hv
  have hx := B.exec
  have hb := B.bytes
  have hr := B.returns
  have hlocks := B.notSynchronized
  have hvc : v.category = 1 := by rcases hv9 with rfl | ⟨t, rfl⟩ <;> rfl
  have hl := lv_entry ([.int i, .int n, v]) (n := 3) (by rcases hv9 with rfl | ⟨t, rfl⟩ <;> exact Nat.le_of_ble_eq_true rfl)
  rw [lg_entry_eq]
  generalize (lg_sl ([.int i, .int n, v]) ++ List.replicate (3 - (lg_sl ([.int i, .int n, v])).length) Slot.unset).toArray = ls at hl ⊢
  have hl : lv_has ls 3 [(0, .int i), (1, .int n), (2, v)] := hl
  refine lv_iload_n hx hb (show decode cJ3_checkIndex_8e157 0 = .ok (.iload_n 0, 1) by decide +kernel) rfl (lv_at hl 0 rfl) ?_
  refine lv_if_lt (tgt := 9) hx hb (show decode cJ3_checkIndex_8e157 1 = .ok (.ifCond .lt 8, 3) by decide +kernel) (by decide) (fun h => absurd h h0) (fun _ => ?_)
  refine lv_iload_n hx hb (show decode cJ3_checkIndex_8e157 4 = .ok (.iload_n 0, 1) by decide +kernel) rfl (lv_at hl 0 rfl) ?_
  refine lv_iload_n hx hb (show decode cJ3_checkIndex_8e157 5 = .ok (.iload_n 1, 1) by decide +kernel) rfl (lv_at hl 1 rfl) ?_
  refine lv_icmp_lt (tgt := 16) hx hb (show decode cJ3_checkIndex_8e157 6 = .ok (.if_icmp .lt 10, 3) by decide +kernel) (by decide) (fun _ => ?_) (fun h => absurd h1 h)
  refine lv_iload_n hx hb (show decode cJ3_checkIndex_8e157 16 = .ok (.iload_n 0, 1) by decide +kernel) rfl (lv_at hl 0 rfl) ?_
  exact W.iret (v := i) hx hb hr (fun t ht _ => ⟨rfl, ht⟩) (fun q hq => by cases hq) (show decode cJ3_checkIndex_8e157 17 = .ok (.ireturn, 1) by decide +kernel)
set_option maxRecDepth 20000 in
theorem cJ_scheck (l : Launch) (b : Nat) (aS : Nat → Nat) (i n : Int32) (h0 : ¬ i < 0) (h1 : i < n) : Met l mJ_scheck.1 (xws mJ_scheck) (xrs 1) (va_Pc [.int i, .int n] (xSP b aS)) (xQr none) 0 0 (fun _ => False) := by
  refine Met.ofW (cc := cJ0_checkIndex_df160) (maxL := 2) (ret := none) (by decide) rfl ?_
  intro p e s m args below meth c s₁ B hml hv
  obtain ⟨rfl, hSt⟩ := hv
  have hx := B.exec
  have hb := B.bytes
  have hr := B.returns
  have hts0 := atoms_spec (ws := xws mJ_scheck) B.pre
  have hts : ∀ w ∈ xT, w.before _ s = true := fun w hw => hts0 w (List.mem_cons_of_mem _ hw)
  have hown : s.vm.findClass RJ0 = some m.cls := findClass_of_methodNamed B.named
  have hlocks := B.notSynchronized
  have hS : va_S (xA b) s.heap s.heap [] := va_S.rf
  have hl := lv_entry ([.int i, .int n]) (n := 2) (Nat.le_of_ble_eq_true rfl)
  rw [lg_entry_eq]
  generalize (lg_sl ([.int i, .int n]) ++ List.replicate (2 - (lg_sl ([.int i, .int n])).length) Slot.unset).toArray = ls at hl ⊢
  have hl : lv_has ls 2 [(0, .int i), (1, .int n)] := hl
  obtain ⟨v, hv9, hZ⟩ : ∃ v : Value, (v = .null ∨ ∃ t, v = .ref t) ∧ va_Z "jdk/internal/util/Preconditions" "SIOOBE_FORMATTER" "Ljava/util/function/BiFunction;" v (xA b) s s.heap := by
    rcases hSt.2.2.1 with h | ⟨t, h⟩
    · exact ⟨.null, Or.inl rfl, h⟩
    · exact ⟨.ref t, Or.inr ⟨t, rfl⟩, h⟩
  refine lv_iload_n hx hb (show decode cJ0_checkIndex_df160 0 = .ok (.iload_n 0, 1) by decide +kernel) rfl (lv_at hl 0 rfl) ?_
  refine lv_iload_n hx hb (show decode cJ0_checkIndex_df160 1 = .ok (.iload_n 1, 1) by decide +kernel) rfl (lv_at hl 1 rfl) ?_
  refine va_gets hx hb hZ hS hown (hts (.fieldLink RJ0 1053 "jdk/internal/util/Preconditions" "SIOOBE_FORMATTER" "Ljava/util/function/BiFunction;") (xT_in 797 (by decide +kernel) rfl)) (fun _ h => h) (show decode cJ0_checkIndex_df160 2 = .ok (.getstatic 1053, 3) by decide +kernel) ?_
  refine xcallR (va_runS (As := [.int i, .int n, v]) (rest := []) ⟨hx, hb, hml, hown, hts⟩ (cJ_pcheck l b aS i n v hv9 h0 h1) ⟨callB_of 3 hts (xws_good bJ_pcheck) rfl rfl rfl (hts _ bJ_pcheck.2.1) (hts (.methodLink RJ0 1059 mJ_pcheck.1) (xT_in 799 (by decide +kernel) rfl)) bJ_pcheck.2.2.1 ⟨Nat.le_of_ble_eq_true rfl, Nat.le_of_ble_eq_true rfl⟩, hts (.static mJ_pcheck.1) (xT_in 800 (by decide +kernel) rfl)⟩ ⟨xSP_blind, xSP_at (vs := [.int i, .int n, v]) hSt hS⟩ rfl rfl hl.1 rfl (lv_room (Nat.le_of_ble_eq_true rfl)) (show decode cJ0_checkIndex_df160 5 = .ok (.invokestatic 1059, 3) by decide +kernel) ⟨Nat.le_refl _, Nat.le_refl _⟩) ?_
  refine lv_pop hx hb (show decode cJ0_checkIndex_df160 8 = .ok (.pop, 1) by decide +kernel) rfl ?_
  exact W.vret hx hb hr (fun t ht _ => ⟨rfl, ht⟩) (fun q hq => by cases hq) (show decode cJ0_checkIndex_df160 9 = .ok (.return_, 1) by decide +kernel)
/-- the char at a place -/
def xch (k : Nat) (i : Int32) : Int32 := (((xsb.getD k []).getD i.toNatClampNeg 0 &&& 255).toUInt32 % 65536).toInt32
theorem xch_nar (k : Nat) (i : Int32) : narrow .char (.int (xch k i)) = .int (xch k i) := pk_nc _
set_option maxRecDepth 20000 in
theorem cJ_lcharAt (l : Launch) (b : Nat) (aS : Nat → Nat) (aV k : Nat) (hk : k < 7) (i : Int32) (hi : vp_in i (xsl.getD k 0)) : Met l mJ_lcharAt.1 (xws mJ_lcharAt) (xrs 2) (va_Pc [.ref aV, .int i] (fun U => xSP b aS U ∧ va_T .byte aV (xsl.getD k 0) (fun j => .int ((xsb.getD k []).getD j 0)) (xA b) U U.heap)) (xQr (some (.int (xch k i)))) 0 0 (fun _ => False) := by
  refine Met.ofW (cc := cJ1_charAt_3b067) (maxL := 2) (ret := some .char) (by decide) rfl ?_
  intro p e s m args below meth c s₁ B hml hv
  obtain ⟨rfl, hSt, hT⟩ := hv
  have hx := B.exec
  have hb := B.bytes
  have hr := B.returns
  have hts0 := atoms_spec (ws := xws mJ_lcharAt) B.pre
  have hts : ∀ w ∈ xT, w.before _ s = true := fun w hw => hts0 w (List.mem_cons_of_mem _ hw)
  have hown : s.vm.findClass RJ1 = some m.cls := findClass_of_methodNamed B.named
  have hlocks := B.notSynchronized
  have hS : va_S (xA b) s.heap s.heap [] := va_S.rf
  have hl := lv_entry ([.ref aV, .int i]) (n := 2) (Nat.le_of_ble_eq_true rfl)
  rw [lg_entry_eq]
  generalize (lg_sl ([.ref aV, .int i]) ++ List.replicate (2 - (lg_sl ([.ref aV, .int i])).length) Slot.unset).toArray = ls at hl ⊢
  have hl : lv_has ls 2 [(0, .ref aV), (1, .int i)] := hl
  have h0 : ¬ i < 0 := fun h => hi (Or.inl h)
  have h1 : i < xnS k := by
    obtain ⟨j, hj, rfl⟩ := vp_in_of hi (xnS_lt k hk)
    exact nI_lt (b := xsl.getD k 0) hj (xnS_lt k hk)
  refine lv_iload_n hx hb (show decode cJ1_charAt_3b067 0 = .ok (.iload_n 1, 1) by decide +kernel) rfl (lv_at hl 1 rfl) ?_
  refine lv_aload_n hx hb (show decode cJ1_charAt_3b067 1 = .ok (.aload_n 0, 1) by decide +kernel) rfl (lv_at hl 0 rfl) ?_
  refine va_tlen (v := xnS k) hx hb hT hS rfl (show decode cJ1_charAt_3b067 2 = .ok (.arraylength, 1) by decide +kernel) ?_
  refine xcallR (va_runS (As := [.int i, .int (xnS k)]) (rest := []) ⟨hx, hb, hml, hown, hts⟩ (cJ_scheck l b aS i (xnS k) h0 h1) ⟨callB_of 2 hts (xws_good bJ_scheck) rfl rfl rfl (hts _ bJ_scheck.2.1) (hts (.methodLink RJ1 9 mJ_scheck.1) (xT_in 794 (by decide +kernel) rfl)) bJ_scheck.2.2.1 ⟨Nat.le_of_ble_eq_true rfl, Nat.le_of_ble_eq_true rfl⟩, hts (.static mJ_scheck.1) (xT_in 795 (by decide +kernel) rfl)⟩ ⟨xSP_blind, xSP_at (vs := [.int i, .int (xnS k)]) hSt hS⟩ rfl rfl hl.1 rfl (lv_room (Nat.le_of_ble_eq_true rfl)) (show decode cJ1_charAt_3b067 3 = .ok (.invokestatic 9, 3) by decide +kernel) ⟨Nat.le_refl _, Nat.le_refl _⟩) ?_
  refine W.eq (g2 := F0 m 6 ls []) rfl ?_
  refine lv_aload_n hx hb (show decode cJ1_charAt_3b067 6 = .ok (.aload_n 0, 1) by decide +kernel) rfl (lv_at hl 0 rfl) ?_
  refine lv_iload_n hx hb (show decode cJ1_charAt_3b067 7 = .ok (.iload_n 1, 1) by decide +kernel) rfl (lv_at hl 1 rfl) ?_
  refine va_tb hx hb hT hS hi rfl (show decode cJ1_charAt_3b067 8 = .ok (.baload, 1) by decide +kernel) ?_
  refine lv_sipush (v := 255) hx hb (show decode cJ1_charAt_3b067 9 = .ok (.sipush 255, 3) by decide +kernel) (by decide) ?_
  refine lv_iand hx hb (show decode cJ1_charAt_3b067 12 = .ok (.iand, 1) by decide +kernel) ?_
  refine lv_i2c (v := xch k i) hx hb (show decode cJ1_charAt_3b067 13 = .ok (.i2c, 1) by decide +kernel) rfl ?_
  exact W.zret (v := xch k i) hx hb hr (xch_nar k i) (fun t ht _ => ⟨rfl, ht⟩) (fun q hq => by cases hq) (show decode cJ1_charAt_3b067 14 = .ok (.ireturn, 1) by decide +kernel)
set_option maxRecDepth 20000 in
theorem cJ_charAt (l : Launch) (b : Nat) (aS : Nat → Nat) (k : Nat) (hk : k < 7) (i : Int32) (hi : vp_in i (xsl.getD k 0)) : Met l mJ_charAt.1 (xws mJ_charAt) (xrs 3) (va_Pc [.ref (aS k), .int i] (xSP b aS)) (xQr (some (.int (xch k i)))) 0 0 (fun _ => False) := by
  refine Met.ofW (cc := cJ0_charAt_5068e) (maxL := 2) (ret := some .char) (by decide) rfl ?_
  intro p e s m args below meth c s₁ B hml hv
  obtain ⟨rfl, hSt⟩ := hv
  have hx := B.exec
  have hb := B.bytes
  have hr := B.returns
  have hts0 := atoms_spec (ws := xws mJ_charAt) B.pre
  have hts : ∀ w ∈ xT, w.before _ s = true := fun w hw => hts0 w (List.mem_cons_of_mem _ hw)
  have hown : s.vm.findClass RJ0 = some m.cls := findClass_of_methodNamed B.named
  have hlocks := B.notSynchronized
  have hSP := hSt
  obtain ⟨z1, z2, z3, adV, z5⟩ := hSt
  have hS : va_S (xA b) s.heap s.heap [] := va_S.rf
  have hl := lv_entry ([.ref (aS k), .int i]) (n := 2) (Nat.le_of_ble_eq_true rfl)
  rw [lg_entry_eq]
  generalize (lg_sl ([.ref (aS k), .int i]) ++ List.replicate (2 - (lg_sl ([.ref (aS k), .int i])).length) Slot.unset).toArray = ls at hl ⊢
  have hl : lv_has ls 2 [(0, .ref (aS k)), (1, .int i)] := hl
  refine lv_aload_n hx hb (show decode cJ0_charAt_5068e 0 = .ok (.aload_n 0, 1) by decide +kernel) rfl (lv_at hl 0 rfl) ?_
  refine xcallR (va_runV (C := RJ0) (As := []) (rest := []) ⟨hx, hb, hml, hown, hts⟩ (cJ_isLatin1 l b aS k hk) ⟨callB_of 0 hts (xws_good bJ_isLatin1) rfl rfl rfl (hts _ bJ_isLatin1.2.1) (hts (.methodLink RJ0 492 mJ_isLatin1.1) (xT_in 787 (by decide +kernel) rfl)) bJ_isLatin1.2.2.1 ⟨Nat.le_of_ble_eq_true rfl, Nat.le_of_ble_eq_true rfl⟩, hts (.instanceMethod mJ_isLatin1.1) (xT_in 788 (by decide +kernel) rfl), hts (.selects RJ0 mJ_isLatin1.1 mJ_isLatin1.1) (xT_in 789 (by decide +kernel) rfl)⟩ ⟨xSP_blind, vk_recv z5 hk hS, xSP_at (vs := [.ref (aS k)]) hSP hS⟩ rfl rfl hl.1 rfl (lv_room (Nat.le_of_ble_eq_true rfl)) (show decode cJ0_charAt_5068e 1 = .ok (.invokevirtual 492, 3) by decide +kernel) ⟨Nat.le_refl _, Nat.le_refl _⟩) ?_
  refine lv_if_eq (tgt := 16) hx hb (show decode cJ0_charAt_5068e 4 = .ok (.ifCond .eq 12, 3) by decide +kernel) (by decide) (fun h => absurd h (by decide)) (fun _ => ?_)
  refine lv_aload_n hx hb (show decode cJ0_charAt_5068e 7 = .ok (.aload_n 0, 1) by decide +kernel) rfl (lv_at hl 0 rfl) ?_
  refine vk_getf hx hb (z5.1 k hk).2.2.1 hS hown (hts (.fieldLink RJ0 9 "java/lang/String" "value" "[B") (xT_in 2271 (by decide +kernel) rfl)) (fun _ h => h) (show decode cJ0_charAt_5068e 8 = .ok (.getfield 9, 3) by decide +kernel) ?_
  refine lv_iload_n hx hb (show decode cJ0_charAt_5068e 11 = .ok (.iload_n 1, 1) by decide +kernel) rfl (lv_at hl 1 rfl) ?_
  have hT := (z5.1 k hk).2.2.2
  refine xcallR (va_runS (As := [.ref (adV k), .int i]) (rest := []) ⟨hx, hb, hml, hown, hts⟩ (cJ_lcharAt l b aS (adV k) k hk i hi) ⟨callB_of 2 hts (xws_good bJ_lcharAt) rfl rfl rfl (hts _ bJ_lcharAt.2.1) (hts (.methodLink RJ0 495 mJ_lcharAt.1) (xT_in 791 (by decide +kernel) rfl)) bJ_lcharAt.2.2.1 ⟨Nat.le_of_ble_eq_true rfl, Nat.le_of_ble_eq_true rfl⟩, hts (.static mJ_lcharAt.1) (xT_in 792 (by decide +kernel) rfl)⟩ ⟨fun _ U g mk q => ⟨q.1, xStr_same (u := U) (U := U.calling g mk _) rfl q.2.1, va_T.moved (u := U) (U := U.calling g mk _) (Vm.Alike.refl U.vm) q.2.2⟩, fun U hU hW => ⟨rfl, (xSP_at (vs := []) hSP hS U hU hW).2, by rw [hU]; exact va_T.moved hW.alike hT⟩⟩ rfl rfl hl.1 rfl (lv_room (Nat.le_of_ble_eq_true rfl)) (show decode cJ0_charAt_5068e 12 = .ok (.invokestatic 495, 3) by decide +kernel) ⟨Nat.le_refl _, Nat.le_refl _⟩) ?_
  exact W.zret (v := xch k i) hx hb hr (xch_nar k i) (fun t ht _ => ⟨rfl, ht⟩) (fun q hq => by cases hq) (show decode cJ0_charAt_5068e 15 = .ok (.ireturn, 1) by decide +kernel)
/-- the two calls, as instructions -/
def xLenS : xF := fun _ σ => match σ.2.1 with
  | .ref a :: st => match Nat.ble 1000000 a && (Nat.blt a 1000007 && Nat.ble (xcs st) 8) with
    | true => some (.inl (none, (σ.1, .int (xnS (a % 1000000)) :: st, σ.2.2)))
    | false => none
  | _ => none
def xChS : xF := fun _ σ => match σ.2.1 with
  | .int i :: .ref a :: st => match Nat.ble 1000000 a && (Nat.blt a 1000007 && (xIn i (xsl.getD (a % 1000000) 0) && Nat.ble (xcs st) 8)) with
    | true => some (.inl (none, (σ.1, .int (xch (a % 1000000) i) :: st, σ.2.2)))
    | false => none
  | _ => none
theorem xtk {a : Nat} (h1 : Nat.ble 1000000 a = true) (h2 : Nat.blt a 1000007 = true) : 1000000 ≤ a ∧ a % 1000000 < 7 := by
  have h3 := Nat.le_of_ble_eq_true h1
  have h4 : a + 1 ≤ 1000007 := Nat.le_of_ble_eq_true h2
  exact ⟨h3, by omega⟩
theorem xv_strA {b a : Nat} {aS : Nat → Nat} (h : 1000000 ≤ a) : xv b aS (.ref a) = .ref (aS (a % 1000000)) := by
  show Value.ref (xad b aS a) = _
  rw [xad, if_neg (by omega)]
section XY
variable {sg : Nat → Option xM} {M : xM} {F r : xK} {pc pc' : Nat}
theorem xok_lenS {index : Nat} (hd : decode M.2.1 pc = .ok (.invokevirtual index, 3)) (hl0 : Cond.methodLink M.1.cls index mJ_length.1 ∈ xT) (hn : xpc r = pc + 3) : xOK sg M F (pc, xLenS) r := by
  refine xOK_l ?_
  intro l b aS D cT d calls hcl p e s m args below meth c res C σ z hz
  obtain ⟨loc, st, hh, cs, sl⟩ := σ
  simp only [xLenS] at hz
  split at hz
  · rename_i a st'
    cases hb : (Nat.ble 1000000 a && (Nat.blt a 1000007 && Nat.ble (xcs st') 8)) with
    | false => rw [hb] at hz; cases hz
    | true =>
      rw [hb] at hz
      cases hz
      rw [Bool.and_eq_true, Bool.and_eq_true] at hb
      obtain ⟨ha, hk⟩ := xtk hb.1 hb.2.1
      have hv : ∀ (b : Nat) (aS : Nat → Nat), xv b aS (.ref a) = .ref (aS (a % 1000000)) := fun b aS => xv_strA ha
      generalize a % 1000000 = k at hk hv hb ⊢
      have h8 : xcs st' ≤ 8 := Nat.le_of_ble_eq_true hb.2.2
      refine ⟨_, rfl, fun g => ⟨g.1, g.2.1, fun H locs ls hI hl => ?_⟩⟩
      obtain ⟨hx, hb2, hml, hown, hnam, -, -, hts, hG⟩ := C
      have g3 := g.2.2 H locs ls hI hl
      dsimp only [xnx] at g3
      rw [hn] at g3
      dsimp only
      rw [List.map_cons, hv]
      have hSP : xSP b aS s := hG.2.2.2.2
      obtain ⟨z1, z2, z3, adV, z5⟩ := hG.2.2.2.2
      refine xcallR (va_runV (C := RJ0) (As := []) (rest := st'.map (xv b aS)) ⟨hx, hb2, hml, hown, hts⟩ (cJ_length l b aS k hk) ⟨callB_of 0 hts (xws_good bJ_length) rfl rfl rfl (hts _ bJ_length.2.1) (hts _ hl0) bJ_length.2.2.1 ⟨by show 1 + 1 ≤ d + 1 + 5; omega, by show 8 + (1 + 11) + 100 * 1 ≤ 54 * (d + 1 + 5); omega⟩, hts (.instanceMethod mJ_length.1) (xT_in 774 (by decide +kernel) rfl), hts (.selects RJ0 mJ_length.1 mJ_length.1) (xT_in 775 (by decide +kernel) rfl)⟩ ⟨xSP_blind, vk_recv z5 hk hI.2.2.2, xSP_at (vs := [.ref (aS k)]) hSP hI.2.2.2⟩ rfl rfl hl.1 rfl (lv_room (by rw [xcs_map]; exact h8)) hd ⟨g.1, g.2.1⟩) g3
  · cases hz
theorem xok_chS {index : Nat} (hd : decode M.2.1 pc = .ok (.invokevirtual index, 3)) (hl0 : Cond.methodLink M.1.cls index mJ_charAt.1 ∈ xT) (hn : xpc r = pc + 3) : xOK sg M F (pc, xChS) r := by
  refine xOK_l ?_
  intro l b aS D cT d calls hcl p e s m args below meth c res C σ z hz
  obtain ⟨loc, st, hh, cs, sl⟩ := σ
  simp only [xChS] at hz
  split at hz
  · rename_i i a st'
    cases hb : (Nat.ble 1000000 a && (Nat.blt a 1000007 && (xIn i (xsl.getD (a % 1000000) 0) && Nat.ble (xcs st') 8))) with
    | false => rw [hb] at hz; cases hz
    | true =>
      rw [hb] at hz
      cases hz
      rw [Bool.and_eq_true, Bool.and_eq_true, Bool.and_eq_true] at hb
      obtain ⟨ha, hk⟩ := xtk hb.1 hb.2.1
      have hv : ∀ (b : Nat) (aS : Nat → Nat), xv b aS (.ref a) = .ref (aS (a % 1000000)) := fun b aS => xv_strA ha
      generalize a % 1000000 = k at hk hv hb ⊢
      have h8 : xcs st' ≤ 8 := Nat.le_of_ble_eq_true hb.2.2.2
      refine ⟨_, rfl, fun g => ⟨g.1, g.2.1, fun H locs ls hI hl => ?_⟩⟩
      obtain ⟨hx, hb2, hml, hown, hnam, -, -, hts, hG⟩ := C
      have g3 := g.2.2 H locs ls hI hl
      dsimp only [xnx] at g3
      rw [hn] at g3
      dsimp only
      rw [List.map_cons, List.map_cons, hv]
      have hSP : xSP b aS s := hG.2.2.2.2
      obtain ⟨z1, z2, z3, adV, z5⟩ := hG.2.2.2.2
      refine xcallR (va_runV (C := RJ0) (As := [.int i]) (rest := st'.map (xv b aS)) ⟨hx, hb2, hml, hown, hts⟩ (cJ_charAt l b aS k hk i (xIn_ok hb.2.2.1)) ⟨callB_of 1 hts (xws_good bJ_charAt) rfl rfl rfl (hts _ bJ_charAt.2.1) (hts _ hl0) bJ_charAt.2.2.1 ⟨by show 3 + 1 ≤ d + 1 + 5; omega, by show 8 + (2 + 11) + 100 * 3 ≤ 54 * (d + 1 + 5); omega⟩, hts (.instanceMethod mJ_charAt.1) (xT_in 784 (by decide +kernel) rfl), hts (.selects RJ0 mJ_charAt.1 mJ_charAt.1) (xT_in 785 (by decide +kernel) rfl)⟩ ⟨xSP_blind, vk_recv z5 hk hI.2.2.2, xSP_at (vs := [.ref (aS k), .int i]) hSP hI.2.2.2⟩ rfl rfl hl.1 rfl (lv_room (by rw [xcs_map]; exact h8)) hd ⟨g.1, g.2.1⟩) g3
  · cases hz
end XY
