/-! ===== calls ===== -/
/-- what a call needs of the callee -/
def xcB (M : xM) (n : Nat) : Prop := Cond.code M.1 M.2.1 M.2.2.1 M.2.2.2 ∈ xT ∧ Cond.initialized M.1.cls ∈ xT ∧ (M.1.cls ≠ "java/lang/invoke/MethodHandle" ∧ M.1.cls ≠ "java/lang/invoke/VarHandle" ∧ (parseMethodDescriptor M.1.desc).map (fun d => d.parameters.length) = some n) ∧ M.2.2.1 ≤ 30
theorem xT_good {w : Cond} (h : w ∈ xT) : (w.onTables && w.keeps) = true ∨ ∃ ty, w = .arrayClass ty := good_of_word (List.mem_filter.mp h).2
theorem xws_good {M : xM} {n : Nat} (h : xcB M n) : GoodIn xT (xws M) := by
  intro w hw
  rcases List.mem_cons.mp hw with rfl | hw
  · exact ⟨h.1, xT_good h.1⟩
  · exact ⟨hw, xT_good hw⟩
section XL
variable {p : Program} {l : Launch} {e : Env} {R : Room} {s : State} {m : MethodId} {args : Array Value} {below : List Frame} {meth : Method} {c : Code} {H : Heap} {locs : List Loc} {cells slots : Nat} {Q : State → Prop} {b : Nat} {aS : Nat → Nat} {D : va_G} {cT : Nat → ClassId}
theorem xcall_W {pc : Nat} {ls : Array Slot} {st0 rest : List Value} {a : Array Value} {res : xR} (hr : va_Run p l e R s m args below meth c H locs cells slots res.2.2.1 res.2.2.2 (F0 m pc ls st0) rest (xQc b aS D cT res a) (xA b)) (hS : va_S (xA b) s.heap H locs)
    (kk : ∀ (H1 : Heap) (locs1 : List Loc), xI b aS D cT s H1 locs1 res.2.1 → W p l e R s m args below meth c H1 locs1 (cells + res.2.2.1) (slots + res.2.2.2) Q (F0 m (pc + 3) ls ((res.1.map (xv b aS)).toList ++ rest))) : W p l e R s m args below meth c H locs cells slots Q (F0 m pc ls st0) := by
  intro T hT X
  obtain ⟨v, st₀, t, T', L, h0, X', hL, e1, e2, ⟨hv, hl1, hsz, hP, hz, hk⟩, st⟩ := hr T hT X
  have hv2 : v = res.1.map (xv b aS) := Outcome.returned.inj hv
  subst hv2
  rw [h0] at hz hk
  obtain ⟨t2, a1, b1⟩ := kk T'.heap (locs ++ L) ⟨hl1, by rw [e1]; exact hsz, by rw [e1]; exact hP, by rw [e1]; exact Nat.le_trans hS.1 hz, fun q h1 h2 => by rw [e1, hk q (Nat.lt_of_lt_of_le h1 hS.1) h2]; exact hS.2.1 q h1 h2, fun q hq => by
      rcases List.mem_append.mp hq with h | h
      · exact hS.2.2 q h
      · exact hL q h⟩ T' rfl X'
  exact ⟨t2, st t2 a1, b1⟩
theorem xPre_blind {vs : List Value} {h : xH} : FrameBlind (va_Pc vs (xPre b aS D cT h)) := fun _ _ _ _ q => ⟨q.1, q.2.1, q.2.2.1, q.2.2.2.1, xG_blind q.2.2.2.2⟩
theorem xPre_at {vs : List Value} {h : xH} (hG : xG b aS D cT s) (hI : xI b aS D cT s H locs h) : ∀ U : State, U.heap = H → s.WarmedH U.vm → va_Pc vs (xPre b aS D cT h) vs.toArray U := fun U hU hW => ⟨rfl, hI.1, by rw [hU]; exact hI.2.1, by rw [hU]; exact hI.2.2.1, xG_call hG hI.2.2.2 hU hW⟩
end XL
def xrc (ci : Option Nat) (vs : List Value) (h : xH) : Bool := match ci with
  | none => true
  | some k => match vs with
    | .ref a :: _ => match h[a]? with
      | some (.inr q) => Nat.beq q.1 k
      | _ => false
    | _ => false
def xCall (i n : Nat) (ci : Option Nat) : xF := fun calls σ =>
  match Nat.ble n σ.2.1.length && (Nat.ble (xcs (σ.2.1.drop n)) 8 && xrc ci (σ.2.1.take n).reverse σ.2.2.1) with
  | true => match calls i (σ.2.1.take n).reverse σ.2.2.1 with
    | some res => some (.inl (none, (σ.1, res.1.toList ++ σ.2.1.drop n, res.2.1, σ.2.2.2.1 + res.2.2.1, σ.2.2.2.2 + res.2.2.2)))
    | none => none
  | false => none
theorem xCall_spec {i n : Nat} {ci : Option Nat} {calls : xC} {loc : List (Nat × Value)} {st : List Value} {h : xH} {cs sl : Nat} {z : (Option Nat × xS) ⊕ xR} (hz : xCall i n ci calls (loc, st, h, cs, sl) = some z) : ∃ (vs rest : List Value) (res : xR), st = vs.reverse ++ rest ∧ vs.length = n ∧ xcs rest ≤ 8 ∧ xrc ci vs h = true ∧ calls i vs h = some res ∧ z = .inl (none, (loc, res.1.toList ++ rest, res.2.1, cs + res.2.2.1, sl + res.2.2.2)) := by
  unfold xCall at hz
  dsimp only at hz
  cases hb : (Nat.ble n st.length && (Nat.ble (xcs (st.drop n)) 8 && xrc ci (st.take n).reverse h)) with
  | false => rw [hb] at hz; cases hz
  | true =>
    rw [hb] at hz
    dsimp only at hz
    rw [Bool.and_eq_true, Bool.and_eq_true] at hb
    split at hz
    · rename_i res hr
      cases hz
      refine ⟨(st.take n).reverse, st.drop n, res, ?_, ?_, Nat.le_of_ble_eq_true hb.2.1, hb.2.2, hr, rfl⟩
      · rw [List.reverse_reverse, List.take_append_drop]
      · rw [List.length_reverse, List.length_take]
        exact Nat.min_eq_left (Nat.le_of_ble_eq_true hb.1)
    · cases hz
theorem xrc_spec {k : Nat} {vs : List Value} {h : xH} (hr : xrc (some k) vs h = true) : ∃ (a : Nat) (As fs : List Value), vs = .ref a :: As ∧ h[a]? = some (.inr (k, fs)) := by
  unfold xrc at hr
  dsimp only at hr
  split at hr
  · split at hr
    · rename_i a As _ q hq
      rw [← Nat.eq_of_beq_eq_true hr]
      exact ⟨a, As, q.2, rfl, hq⟩
    · cases hr
  · cases hr
section XQ
variable {sg : Nat → Option xM} {M : xM} {F r : xK} {pc pc' : Nat}
theorem xst_map {b : Nat} {aS : Nat → Nat} {vs rest : List Value} : ((vs.reverse ++ rest).map (xv b aS)) = (vs.map (xv b aS)).reverse ++ rest.map (xv b aS) := by
  rw [List.map_append, List.map_reverse]
theorem xres_map {b : Nat} {aS : Nat → Nat} {res : xR} {rest : List Value} : (res.1.toList ++ rest).map (xv b aS) = (res.1.map (xv b aS)).toList ++ rest.map (xv b aS) := by
  rw [List.map_append]
  congr 1
  cases res.1 <;> rfl
theorem xroom {M' : xM} {n d : Nat} {res res0 : xR} (h : xcB M' n) : (xrm d res).frames + 1 ≤ (xrm (d + 1) res0).frames ∧ 8 + (M'.2.2.1 + 11) + (xrm d res).locals ≤ (xrm (d + 1) res0).locals := by
  have h4 := h.2.2.2
  refine ⟨?_, ?_⟩
  · show d + 5 + 1 ≤ d + 1 + 5
    omega
  · show 8 + (M'.2.2.1 + 11) + 54 * (d + 5) ≤ 54 * (d + 1 + 5)
    omega
theorem xok_callS {i n index : Nat} {M' : xM} (hs : sg i = some M') (hd : decode M.2.1 pc = .ok (.invokestatic index, 3)) (hB : xcB M' n) (hst : Cond.static M'.1 ∈ xT) (hl0 : Cond.methodLink M.1.cls index M'.1 ∈ xT) (hn : xpc r = pc + 3) : xOK sg M F (pc, xCall i n none) r := by
  refine xOK_l ?_
  intro l b aS D cT d calls hcl p e s m args below meth c res C σ z hz
  obtain ⟨loc, st, hh, cs, sl⟩ := σ
  obtain ⟨vs, rest, res1, rfl, hvl, h8, -, hcall, rfl⟩ := xCall_spec hz
  refine ⟨_, rfl, fun g => ⟨Nat.le_trans (Nat.le_add_right _ _) g.1, Nat.le_trans (Nat.le_add_right _ _) g.2.1, fun H locs ls hI hl => ?_⟩⟩
  obtain ⟨hx, hb2, hml, hown, hnam, -, -, hts, hG⟩ := C
  have hM := hcl i vs hh res1 M' hcall hs
  have cb := callB_of (R := xrm (d + 1) res) (rm := xrm d res1) n hts (xws_good hB) rfl rfl rfl (hts _ hB.2.1) (hts _ hl0) hB.2.2.1 (xroom hB)
  dsimp only
  rw [xst_map]
  refine xcall_W (va_runS (As := vs.map (xv b aS)) (rest := rest.map (xv b aS)) ⟨hx, hb2, hml, hown, hts⟩ hM ⟨cb, hts _ hst⟩ ⟨xPre_blind, xPre_at hG hI⟩ rfl (by rw [List.length_map]; exact hvl) hl.1 rfl (lv_room (by rw [xcs_map]; exact h8)) hd ⟨g.1, g.2.1⟩) hI.2.2.2 (fun H1 locs1 hI1 => ?_)
  have g3 := g.2.2 H1 locs1 ls hI1 hl
  dsimp only [xnx] at g3
  rw [hn, xres_map] at g3
  exact g3
theorem xok_callV {i n ci index N : Nat} {M' : xM} {T : u_T} (hs : sg i = some M') (hc : vwCl[ci]? = some (M'.1.cls, T, N)) (hd : decode M.2.1 pc = .ok (.invokevirtual index, 3)) (hB : xcB M' n) (hin : Cond.instanceMethod M'.1 ∈ xT) (hse : Cond.selects M'.1.cls M'.1 M'.1 ∈ xT) (hl0 : Cond.methodLink M.1.cls index M'.1 ∈ xT) (hn : xpc r = pc + 3) : xOK sg M F (pc, xCall i (n + 1) (some ci)) r := by
  refine xOK_l ?_
  intro l b aS D cT d calls hcl p e s m args below meth c res C σ z hz
  obtain ⟨loc, st, hh, cs, sl⟩ := σ
  obtain ⟨vs, rest, res1, rfl, hvl, h8, hrc, hcall, rfl⟩ := xCall_spec hz
  obtain ⟨a, As, fs, rfl, ha⟩ := xrc_spec hrc
  refine ⟨_, rfl, fun g => ⟨Nat.le_trans (Nat.le_add_right _ _) g.1, Nat.le_trans (Nat.le_add_right _ _) g.2.1, fun H locs ls hI hl => ?_⟩⟩
  obtain ⟨hx, hb2, hml, hown, hnam, -, -, hts, hG⟩ := C
  have hM := hcl i _ hh res1 M' hcall hs
  have cb := callB_of (R := xrm (d + 1) res) (rm := xrm d res1) n hts (xws_good hB) rfl rfl rfl (hts _ hB.2.1) (hts _ hl0) hB.2.2.1 (xroom hB)
  have hpa := xPre_at (vs := (Value.ref a :: As).map (xv b aS)) hG hI
  dsimp only
  rw [xst_map]
  rw [List.map_cons, xI_lt hI ha] at hM hpa ⊢
  refine xcall_W (va_runV (C := M'.1.cls) (As := As.map (xv b aS)) (rest := rest.map (xv b aS)) ⟨hx, hb2, hml, hown, hts⟩ hM ⟨cb, hts _ hin, hts _ hse⟩ ⟨xPre_blind, va_recv hG.1 hI.2.2.1 hc (xw_at ha), hpa⟩ rfl (by rw [List.length_map]; exact Nat.succ.inj hvl) hl.1 (by simp) (lv_room (by rw [xcs_map]; exact h8)) hd ⟨g.1, g.2.1⟩) hI.2.2.2 (fun H1 locs1 hI1 => ?_)
  have g3 := g.2.2 H1 locs1 ls hI1 hl
  dsimp only [xnx] at g3
  rw [hn, xres_map] at g3
  exact g3
theorem xok_callI {i n ci index : Nat} {M' : xM} (hs : sg i = some M') (hd : decode M.2.1 pc = .ok (.invokespecial index, 3)) (hB : xcB M' n) (hret : M'.2.2.2 = none) (hin : Cond.instanceMethod M'.1 ∈ xT) (hnm : M'.1.name = "<init>") (hl0 : Cond.methodLink M.1.cls index M'.1 ∈ xT) (hn : xpc r = pc + 3) : xOK sg M F (pc, xCall i (n + 1) (some ci)) r := by
  refine xOK_l ?_
  intro l b aS D cT d calls hcl p e s m args below meth c res C σ z hz
  obtain ⟨loc, st, hh, cs, sl⟩ := σ
  obtain ⟨vs, rest, res1, rfl, hvl, h8, hrc, hcall, rfl⟩ := xCall_spec hz
  obtain ⟨a, As, fs, rfl, ha⟩ := xrc_spec hrc
  refine ⟨_, rfl, fun g => ⟨Nat.le_trans (Nat.le_add_right _ _) g.1, Nat.le_trans (Nat.le_add_right _ _) g.2.1, fun H locs ls hI hl => ?_⟩⟩
  obtain ⟨hx, hb2, hml, hown, hnam, -, -, hts, hG⟩ := C
  have hM := hcl i _ hh res1 M' hcall hs
  have cb := callB_of (R := xrm (d + 1) res) (rm := xrm d res1) n hts (xws_good hB) rfl rfl rfl (hts _ hB.2.1) (hts _ hl0) hB.2.2.1 (xroom hB)
  rw [hret] at cb
  have hpa := xPre_at (vs := (Value.ref a :: As).map (xv b aS)) hG hI
  dsimp only
  rw [xst_map]
  rw [List.map_cons, xI_lt hI ha] at hM hpa ⊢
  refine xcall_W (va_runI (As := As.map (xv b aS)) (rest := rest.map (xv b aS)) ⟨hx, hb2, hml, hown, hts⟩ hM ⟨cb, hnm, hts _ hin⟩ ⟨xPre_blind, hpa⟩ rfl (by rw [List.length_map]; exact Nat.succ.inj hvl) hl.1 (by simp) (lv_room (by rw [xcs_map]; exact h8)) hd ⟨g.1, g.2.1⟩) hI.2.2.2 (fun H1 locs1 hI1 => ?_)
  have g3 := g.2.2 H1 locs1 ls hI1 hl
  dsimp only [xnx] at g3
  rw [hn, xres_map] at g3
  exact g3
theorem xok_callIN {i n ci index : Nat} {M' : xM} {host : String} (hs : sg i = some M') (hd : decode M.2.1 pc = .ok (.invokespecial index, 3)) (hB : xcB M' n) (hret : M'.2.2.2 = none) (hin : Cond.instanceMethod M'.1 ∈ xT) (hnm : M'.1.name = "<init>") (hl0 : Cond.methodLinkNest M.1.cls index M'.1 host ∈ xN) (hn : xpc r = pc + 3) : xOK sg M F (pc, xCall i (n + 1) (some ci)) r := by
  refine xOK_l ?_
  intro l b aS D cT d calls hcl p e s m args below meth c res C σ z hz
  obtain ⟨loc, st, hh, cs, sl⟩ := σ
  obtain ⟨vs, rest, res1, rfl, hvl, h8, hrc, hcall, rfl⟩ := xCall_spec hz
  obtain ⟨a, As, fs, rfl, ha⟩ := xrc_spec hrc
  refine ⟨_, rfl, fun g => ⟨Nat.le_trans (Nat.le_add_right _ _) g.1, Nat.le_trans (Nat.le_add_right _ _) g.2.1, fun H locs ls hI hl => ?_⟩⟩
  obtain ⟨hx, hb2, hml, hown, hnam, -, -, hts, hG⟩ := C
  have hM := hcl i _ hh res1 M' hcall hs
  have cb := va_cnB (R := xrm (d + 1) res) (rm := xrm d res1) n hts (xws_good hB) rfl rfl rfl (hG.2.1 _ hl0) (hts _ hB.2.1) hB.2.2.1 (xroom hB)
  rw [hret] at cb
  have hpa := xPre_at (vs := (Value.ref a :: As).map (xv b aS)) hG hI
  dsimp only
  rw [xst_map]
  rw [List.map_cons, xI_lt hI ha] at hM hpa ⊢
  refine xcall_W (va_runIN (As := As.map (xv b aS)) (rest := rest.map (xv b aS)) ⟨hx, hb2, hml, hown, hts⟩ hM ⟨cb, hnm, hts _ hin⟩ ⟨xPre_blind, hpa⟩ rfl (by rw [List.length_map]; exact Nat.succ.inj hvl) hl.1 (by simp) (lv_room (by rw [xcs_map]; exact h8)) hd ⟨g.1, g.2.1⟩) hI.2.2.2 (fun H1 locs1 hI1 => ?_)
  have g3 := g.2.2 H1 locs1 ls hI1 hl
  dsimp only [xnx] at g3
  rw [hn, xres_map] at g3
  exact g3
end XQ
