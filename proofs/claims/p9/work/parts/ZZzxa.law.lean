/-! ===== the law: its entry, its end, its own makings and calls ===== -/
def R_law : String := "FeatherBenchLaw"
def lw_P (b : Addr) (xs : List Int32) (args : Array Value) (s : State) : Prop := args = #[.ref b] ∧ s.IntsAt b xs ∧ xs.length ≤ 3584 ∧ (Jvm.Cond.and given_1 narrow_1).before args s = true
def lw_Q (_ : Array Value) (s : State) (o : Outcome) (t : State) : Prop := o = .returned (some (.int 1)) ∧ Framed s o t [] 600000 7302250
def lw_Z (below : List Frame) (a : Array Value) (s : State) : State → Prop := fun t => ∃ o, t.status = .running ∧ Ended t below o ∧ lw_Q a s o t
/-- the law's own end, with 1 on the stack, nothing written that was there before, its room as the claim has it -/
theorem lw_ret {p : Program} {l : Launch} {e : Jvm.Env} {s : State} {m : MethodId} {below : List Frame} {meth : Method} {c : Code} {b : Nat} (hx : p.tables.exec = Jvm.exec) (hb : c.code = code) (hr : meth.sig.returnType = ret) (hlocks : meth.locks = false) {pc : Nat} {H : Heap} {ls : Array Slot} (hdg : decode code pc = .ok (.ireturn, 1)) : W p l e room_1 s m #[Value.ref b] below meth c H [] 600000 7302250 (lw_Z below #[Value.ref b] s) (F0 m pc ls [.int 1]) := by
  intro T hT X
  obtain ⟨fs, hret, hrun, hended, hW, hframe⟩ := X.leave (v := some (.int 1)) (hlocks := hlocks) (fun h => by rw [hr] at h; cases h)
  have hmeth' : T.vm.method? m = some meth := X.method'
  refine ⟨T.setFrames fs, ?_, .returned (some (.int 1)), hrun, hended, rfl, ⟨_, rfl⟩, hW, hframe⟩
  jvm_step X.here [X.here.top, hx, hb, hdg, hmeth', hr, ret, narrow_b1]
  (try refine ⟨rfl, ?_⟩); (try refine ⟨rfl, ?_⟩)
  first | (intro acts; rw [hret _ acts rfl rfl rfl]) | rw [hret _ _ rfl rfl rfl]
  exact Steps.refl _
/-- what holds at the law's entry: the machine, the code, the tables' words (any of lw_tbl by 'hts w (by decide +kernel)'), the script of L ints xs at the cell b, what the Statement gives of the start (any of its parts by flat_of_before) -/
def lw_At (p : Program) (s : State) (m : MethodId) (meth : Method) (c : Code) (b L : Nat) (xs : Nat → Int32) : Prop :=
  p.tables.exec = Jvm.exec ∧ c.code = code ∧ meth.sig.returnType = ret ∧ c.maxLocals = 4 ∧ s.vm.findClass R_law = some m.cls ∧ (∀ w ∈ lw_tbl, w.before #[Value.ref b] s = true) ∧ va_X b L xs s s.heap ∧ b < s.heap.size ∧ meth.locks = false ∧ (Jvm.Cond.and given_1 narrow_1).before #[Value.ref b] s = true
section LX
variable {p : Program} {l : Launch} {e : Jvm.Env} {s : State} {m : MethodId} {args : Array Value} {below : List Frame} {meth : Method} {c : Code} {H : Heap} {locs : List Loc} {cells slots : Nat} {Q : State → Prop} {g : Nat} {aS : Nat → Nat} {D : va_G} {cT : Nat → ClassId} {pc : Nat} {ls : Array Slot} {rest : List Value} {h : xH}
theorem lx_new {ci N index : Nat} {Cn : String} {T : u_T} {ty0 : Nat → FieldType} {fs : List Value} (hx : p.tables.exec = Jvm.exec) (hb : c.code = code) (hown : s.vm.findClass R_law = some m.cls) (hts : ∀ w ∈ xT, w.before args s = true) (hG : xG g aS D cT s) (hd : decode code pc = .ok (.new index, 3)) (hc : vwCl[ci]? = some (Cn, T, N)) (hin : ∀ w ∈ u_ws Cn T N, w ∈ xT) (hty : ∀ k, k < N → parseFieldDescriptor (T k).2.2.1 = some (ty0 k)) (hfs : ∀ j, j < N → defaultValue (ty0 j) = vp_V fs j) (hfx : fs.map (xv g aS) = fs)
    (hw1 : Cond.classLink R_law index Cn ∈ xT) (hw2 : Cond.instantiable Cn N ∈ xT) (hw3 : Cond.initialized Cn ∈ xT) (hI : xI g aS D cT s H locs h) (hlt : h.length < 1000000) (hc1 : cells + 1 ≤ 600000) (hs1 : slots + N ≤ 7302250)
    (kk : ∀ H1 : Heap, xI g aS D cT s H1 locs (h ++ [.inr (ci, fs)]) → W p l e room_1 s m args below meth c H1 locs (cells + 1) (slots + N) Q (F0 m (pc + 3) ls (.ref (g + h.length) :: rest))) : W p l e room_1 s m args below meth c H locs cells slots Q (F0 m pc ls rest) := by
  have hKn := hG.1.1 ci _ hc
  refine W.newcK hx hb hown (hts _ hw1) (hts _ hw2) (hts _ hw3) rfl hd hc1 hs1 hKn.2.1 hI.2.1 fun H1 kC hkC e1 z1 o1 => ?_
  have he : va_at D vwCl (g + h.length, xc g aS cT (.inr (ci, fs))) H1 := by
    refine ⟨_, hc, ?_⟩
    show t_OB (g + h.length) (D.1 ci) N (D.2 ci) H1 (vp_V (fs.map (xv g aS)))
    rw [hfx]
    exact (u_born ty0 hts hin hKn hkC e1 hty).to hfs
  exact kk H1 (xI_new hI hlt hG.2.2.2.1 _ he (by rw [z1, hI.2.1]) (fun q hq => o1 q (by rw [← hI.2.1]; exact hq)))
theorem lx_callI {i n ci a index : Nat} {M' : xM} {calls : xC} {As fs : List Value} {res : xR} (hx : p.tables.exec = Jvm.exec) (hb : c.code = code) (hml : c.maxLocals = 4) (hown : s.vm.findClass R_law = some m.cls) (hts : ∀ w ∈ xT, w.before args s = true) (hG : xG g aS D cT s) (hcl : xCallsOK xsg l g aS D cT 1514 calls) (hs : xsg i = some M') (hd : decode code pc = .ok (.invokespecial index, 3)) (hB : xcB M' n) (hret : M'.2.2.2 = none) (hin : Cond.instanceMethod M'.1 ∈ xT) (hnm : M'.1.name = "<init>") (hl0 : Cond.methodLink R_law index M'.1 ∈ xT)
    (hI : xI g aS D cT s H locs h) (ha : h[a]? = some (.inr (ci, fs))) (hcall : calls i (.ref a :: As) h = some res) (hAs : As.length = n) (hl : ls.size = 4) (h8 : (rest.map fun v => v.category).sum ≤ 8) (hf : cells + res.2.2.1 ≤ 600000 ∧ slots + res.2.2.2 ≤ 7302250)
    (kk : ∀ (H1 : Heap) (locs1 : List Loc), xI g aS D cT s H1 locs1 res.2.1 → W p l e room_1 s m args below meth c H1 locs1 (cells + res.2.2.1) (slots + res.2.2.2) Q (F0 m (pc + 3) ls ((res.1.map (xv g aS)).toList ++ rest))) : W p l e room_1 s m args below meth c H locs cells slots Q (F0 m pc ls ((As.map (xv g aS)).reverse ++ .ref (g + a) :: rest)) := by
  have hM := hcl i _ h res M' hcall hs
  have h4 := hB.2.2.2
  have cb := callB_of (R := room_1) (rm := xrm 1514 res) n hts (xws_good hB) rfl rfl rfl (hts _ hB.2.1) (hts _ hl0) hB.2.2.1 ⟨by show 1514 + 5 + 1 ≤ 2048; decide, by show 8 + (M'.2.2.1 + 11) + 54 * (1514 + 5) ≤ 84000; omega⟩
  rw [hret] at cb
  have hpa := xPre_at (vs := (Value.ref a :: As).map (xv g aS)) hG hI
  rw [List.map_cons, xI_lt hI ha] at hM hpa
  exact xcall_W (va_runI (As := As.map (xv g aS)) (rest := rest) ⟨hx, hb, hml, hown, hts⟩ hM ⟨cb, hnm, hts _ hin⟩ ⟨xPre_blind, hpa⟩ rfl (by rw [List.length_map]; exact hAs) hl rfl (lv_room h8) hd hf) hI.2.2.2 kk
theorem lx_callV {i n ci a index N : Nat} {M' : xM} {T : u_T} {calls : xC} {As fs : List Value} {res : xR} (hx : p.tables.exec = Jvm.exec) (hb : c.code = code) (hml : c.maxLocals = 4) (hown : s.vm.findClass R_law = some m.cls) (hts : ∀ w ∈ xT, w.before args s = true) (hG : xG g aS D cT s) (hcl : xCallsOK xsg l g aS D cT 1514 calls) (hs : xsg i = some M') (hc : vwCl[ci]? = some (M'.1.cls, T, N)) (hd : decode code pc = .ok (.invokevirtual index, 3)) (hB : xcB M' n) (hin : Cond.instanceMethod M'.1 ∈ xT) (hse : Cond.selects M'.1.cls M'.1 M'.1 ∈ xT) (hl0 : Cond.methodLink R_law index M'.1 ∈ xT)
    (hI : xI g aS D cT s H locs h) (ha : h[a]? = some (.inr (ci, fs))) (hcall : calls i (.ref a :: As) h = some res) (hAs : As.length = n) (hl : ls.size = 4) (h8 : (rest.map fun v => v.category).sum ≤ 8) (hf : cells + res.2.2.1 ≤ 600000 ∧ slots + res.2.2.2 ≤ 7302250)
    (kk : ∀ (H1 : Heap) (locs1 : List Loc), xI g aS D cT s H1 locs1 res.2.1 → W p l e room_1 s m args below meth c H1 locs1 (cells + res.2.2.1) (slots + res.2.2.2) Q (F0 m (pc + 3) ls ((res.1.map (xv g aS)).toList ++ rest))) : W p l e room_1 s m args below meth c H locs cells slots Q (F0 m pc ls ((As.map (xv g aS)).reverse ++ .ref (g + a) :: rest)) := by
  have hM := hcl i _ h res M' hcall hs
  have h4 := hB.2.2.2
  have cb := callB_of (R := room_1) (rm := xrm 1514 res) n hts (xws_good hB) rfl rfl rfl (hts _ hB.2.1) (hts _ hl0) hB.2.2.1 ⟨by show 1514 + 5 + 1 ≤ 2048; decide, by show 8 + (M'.2.2.1 + 11) + 54 * (1514 + 5) ≤ 84000; omega⟩
  have hpa := xPre_at (vs := (Value.ref a :: As).map (xv g aS)) hG hI
  rw [List.map_cons, xI_lt hI ha] at hM hpa
  exact xcall_W (va_runV (C := M'.1.cls) (As := As.map (xv g aS)) (rest := rest) ⟨hx, hb, hml, hown, hts⟩ hM ⟨cb, hts _ hin, hts _ hse⟩ ⟨xPre_blind, va_recv hG.1 hI.2.2.1 hc (xw_at ha), hpa⟩ rfl (by rw [List.length_map]; exact hAs) hl rfl (lv_room h8) hd hf) hI.2.2.2 kk
end LX
theorem W_cs {p : Program} {l : Launch} {e : Jvm.Env} {s : State} {m : MethodId} {args : Array Value} {below : List Frame} {meth : Method} {c : Code} {H : Heap} {locs : List Loc} {Q : State → Prop} {c1 c2 s1 s2 : Nat} {f : JFrame} (h1 : c1 = c2) (h2 : s1 = s2) (k : W p l e room_1 s m args below meth c H locs c1 s1 Q f) : W p l e room_1 s m args below meth c H locs c2 s2 Q f := by
  subst h1 h2
  exact k
/-- what the class made fits -/
theorem LSr_rm {h : xH} {sg : yS} (hS : LSr h sg) : h.length ≤ 600000 ∧ 667766 + Sh h ≤ 7302250 := by
  obtain ⟨⟨-, ⟨-, -, r3, r4⟩, r5, -⟩, -⟩ := hS.1
  omega
theorem LSr_0 {h : xH} {sg : yS} (hS : LSr h sg) : ∃ fs, h[0]? = some (.inr (11, fs)) := by
  obtain ⟨fs, h1, -⟩ := hS.1.1.1 0 (by decide) (by decide +kernel)
  exact ⟨fs, h1⟩
