/-! ===== the class: runs with more known of the heap than its kinds ===== -/
section GEN
variable {sg : List (Nat × cSg)} {q : cSg} {L : xLD} {ml : Nat} {ret : Option FieldType} {E : xCd} {AN : cN} {calls : xC}
/-- one step from a place: on, or out -/
def gStp (calls : xC) (q : cSg) (L : xLD) (ml : Nat) (ret : Option FieldType) (E : xCd) (AN : cN) (Y : Nat → cLoc → List Value → xH → Prop) (Z : Option Value → xH → Prop) (n : Nat) (e : Nat × Instr × Nat) (a : cA × List (Nat × Nat)) : Prop :=
  ∀ (loc : cLoc) (st : List Value) (h : xH) (cs sl : Nat), INV h → mA a.1 loc st → Y n loc st h →
    (∃ v, xIt L ml ret false E e.1 e.2.1 e.2.2 (E.drop (n + 1)) calls (loc, st, h, cs, sl) = some (.inr (v, h, cs, sl)) ∧ rOK q.2.1 v ∧ Z v h) ∨
    (∃ (o : Option Nat) (loc' : cLoc) (st' : List Value) (h' : xH) (cs' sl' t : Nat) (b : cA × List (Nat × Nat)), xIt L ml ret false E e.1 e.2.1 e.2.2 (E.drop (n + 1)) calls (loc, st, h, cs, sl) = some (.inl (o, (loc', st', h', cs + cs', sl + sl'))) ∧ t = o.getD (n + 1) ∧ AN[t]? = some b ∧ mA b.1 loc' st' ∧ CST q.2.2 h h' cs' sl' ∧ Y t loc' st' h' ∧ enc (b.2.map (dig loc')) < enc (a.2.map (dig loc)))
theorem run_gen {Y : Nat → cLoc → List Value → xH → Prop} {Z : Option Value → xH → Prop} (hs : ∀ n a, AN[n]? = some a → ∃ e, E[n]? = some e ∧ gStp calls q L ml ret E AN Y Z n e a) : ∀ (N n : Nat) (loc : cLoc) (st : List Value) (h : xH) (cs sl : Nat) (a : cA × List (Nat × Nat)), AN[n]? = some a → enc (a.2.map (dig loc)) = N → INV h → mA a.1 loc st → Y n loc st h → ∃ m v h' cs' sl', xit calls (xmk L ml ret false E E) m (some (.inl (xmk L ml ret false E (E.drop n), (loc, st, h, cs, sl)))) = some (.inr (v, h', cs + cs', sl + sl')) ∧ rOK q.2.1 v ∧ CST q.2.2 h h' cs' sl' ∧ Z v h' := by
  intro N
  induction N using Nat.strongRecOn with
  | ind N ih =>
    intro n loc st h cs sl a ha hN hI hm hY
    obtain ⟨e, e1, e2⟩ := hs n a ha
    have hd : E.drop n = e :: E.drop (n + 1) := by
      obtain ⟨hl, he⟩ := List.getElem?_eq_some_iff.mp e1
      rw [List.drop_eq_getElem_cons hl, he]
    have hx : xmk L ml ret false E (E.drop n) = (e.1, xIt L ml ret false E e.1 e.2.1 e.2.2 (E.drop (n + 1))) :: xmk L ml ret false E (E.drop (n + 1)) := by
      rw [hd]
      rfl
    rw [hx]
    rcases e2 loc st h cs sl hI hm hY with ⟨v, v1, v2, v3⟩ | ⟨o, loc', st', h', cs1, sl1, t, b, s1, s3, b1, s4, s5, s7, s6⟩
    · exact ⟨1, v, h, 0, 0, xit_r v1, v2, CST_rf hI, v3⟩
    · rw [hN] at s6
      obtain ⟨m, v, h2, cs2, sl2, r1, r2, r3, r4⟩ := ih _ s6 t loc' st' h' (cs + cs1) (sl + sl1) b b1 rfl s5.1 s4 s7
      refine ⟨m + 1, v, h2, cs1 + cs2, sl1 + sl2, ?_, r2, CST_tr s5 r3, r4⟩
      refine xit_l s1 ?_
      have hnx : xnx (xmk L ml ret false E E) (xmk L ml ret false E (E.drop (n + 1))) o = xmk L ml ret false E (E.drop t) := by
        cases o with
        | none =>
          have s3 : t = n + 1 := s3
          rw [s3]
          rfl
        | some t' =>
          have s3 : t = t' := s3
          rw [s3]
          exact xmk_drop t' E
      rw [hnx, ← Nat.add_assoc, ← Nat.add_assoc]
      exact r1
def tal (T : Nat → Bool) : List (Nat × cA) → Bool
  | [] => true
  | p :: R => T p.1 && tal T R
theorem tal_at {T : Nat → Bool} {p : Nat × cA} : ∀ {R : List (Nat × cA)}, tal T R = true → p ∈ R → T p.1 = true
  | [], _, h => absurd h List.not_mem_nil
  | r :: R, h, hp => by
    unfold tal at h
    rw [Bool.and_eq_true] at h
    rcases List.mem_cons.mp hp with rfl | hp
    · exact h.1
    · exact tal_at h.2 hp
/-- a step that is checked, with W alone written, to places that are T -/
def chkW (sg : List (Nat × cSg)) (q : cSg) (W : List (Nat × Nat)) (T : Nat → Bool) (L : xLD) (ml : Nat) (E : xCd) (AN : cN) (n : Nat) (e : Nat × Instr × Nat) (r : xCd) (a : cA × List (Nat × Nat)) : Bool := wsub W q.2.2 && (match t_X sg W L ml E n e r a.1 with
  | some R => chkT AN (chg e.2.1) a (drp e.2.1 R) && tal T (drp e.2.1 R)
  | none => false)
theorem gStp_W {Y : Nat → cLoc → List Value → xH → Prop} {Z : Option Value → xH → Prop} {n : Nat} {e : Nat × Instr × Nat} {a : cA × List (Nat × Nat)} {W : List (Nat × Nat)} {T : Nat → Bool} (hc : ∀ p ∈ sg, CTR calls p.1 p.2) (hk : chkW sg q W T L ml E AN n e (E.drop (n + 1)) a = true) (hY : ∀ loc st h o loc' st' h' cs sl cs' sl', T (o.getD (n + 1)) = true → INV h → mA a.1 loc st → Y n loc st h → xIt L ml ret false E e.1 e.2.1 e.2.2 (E.drop (n + 1)) calls (loc, st, h, cs, sl) = some (.inl (o, (loc', st', h', cs + cs', sl + sl'))) → CST W h h' cs' sl' → Y (o.getD (n + 1)) loc' st' h') : gStp calls q L ml ret E AN Y Z n e a := by
  intro loc st h cs sl hI hm hy
  right
  unfold chkW at hk
  rw [Bool.and_eq_true] at hk
  obtain ⟨k1, k2⟩ := hk
  cases hR : t_X sg W L ml E n e (E.drop (n + 1)) a.1 with
  | none => rw [hR] at k2; cases k2
  | some R =>
    rw [hR] at k2
    dsimp only at k2
    rw [Bool.and_eq_true] at k2
    obtain ⟨k2, k4⟩ := k2
    have hs := drp_ok (ret := ret) hR (t_X_ok (ret := ret) hc hR)
    obtain ⟨o, loc', st', h', cs1, sl1, t, B, s1, s2, s3, s4, s5, s6⟩ := hs loc st h cs sl hI hm
    obtain ⟨b, b1, b2, b3, b4⟩ := chkT_at k2 s2
    have b1 : AN[t]? = some b := b1
    refine ⟨o, loc', st', h', cs1, sl1, t, b, s1, s3, b1, ale_ok b2 s4, CST_mo s5 (fun p hp => wsub_ok k1 hp), ?_, (rkd_ok hm s6 b3 b4).2⟩
    rw [s3]
    exact hY loc st h o loc' st' h' cs sl cs1 sl1 (by rw [← s3]; exact tal_at k4 s2) hI hm hy s1 s5
theorem gStp_R {Y : Nat → cLoc → List Value → xH → Prop} {Z : Option Value → xH → Prop} {n : Nat} {e : Nat × Instr × Nat} {a : cA × List (Nat × Nat)} (hk : t_R q.2.1 ret e.2.1 e.2.2 a.1.2.1 = true) (hZ : ∀ loc st h v, INV h → mA a.1 loc st → Y n loc st h → Z v h) : gStp calls q L ml ret E AN Y Z n e a := by
  intro loc st h cs sl hI hm hy
  left
  obtain ⟨v, v1, v2⟩ := t_R_ok (calls := calls) (L := L) (ml := ml) (E := E) (r := E.drop (n + 1)) (hh := h) (cs := cs) (sl := sl) hk hm
  exact ⟨v, v1, v2, hZ loc st h v hI hm hy⟩
/-- a method's call -/
theorem gen_ok {d j : Nat} {M : xM} {Y : Nat → cLoc → List Value → xH → Prop} {Z : Option Value → xH → Prop} {a : cA × List (Nat × Nat)} {h : xH} {vs : List Value} (hM : xsg j = some M) (hml : M.2.2.1 = ml) (hF : xpr j = some (xmk L ml ret false E E)) (h0 : AN[0]? = some a) (hk : ((kc2 q.1 && Nat.ble (exl q.1).length ml) && ale (exl q.1, [], [], []) a.1) = true) (hs : ∀ n a, AN[n]? = some a → ∃ e, E[n]? = some e ∧ gStp (yex d) q L ml ret E AN Y Z n e a) (hI : INV h) (ha : aOK q.1 vs) (hY : Y 0 (lv_args 0 vs) [] h) : ∃ v h' cs sl, yex (d + 1) j vs h = some (v, h', cs, sl) ∧ rOK q.2.1 v ∧ CST q.2.2 h h' cs sl ∧ Z v h' := by
  rw [Bool.and_eq_true, Bool.and_eq_true] at hk
  obtain ⟨⟨k1, k2⟩, k3⟩ := hk
  have hm : mA ((exl q.1, [], [], []) : cA) (lv_args 0 vs) [] := ⟨fun k K hK hu => by
    obtain ⟨v, v1, v2⟩ := la_get (i := 0) ha k1 hK hu
    rw [Nat.zero_add] at v1
    exact ⟨v, v1, v2⟩, trivial, fun k hk => absurd hk List.not_mem_nil, fun k hk => absurd hk List.not_mem_nil⟩
  obtain ⟨m, v, h', cs, sl, r1, r2, r3, r4⟩ := run_gen hs _ 0 (lv_args 0 vs) [] h 0 0 a h0 rfl hI (ale_ok k3 hm) hY
  rw [Nat.zero_add, Nat.zero_add] at r1
  refine ⟨v, h', cs, sl, yex_of (k := m) hM hF ?_ r1, r2, r3, r4⟩
  rw [sl_len ha k1, hml]
  exact k2
end GEN
/-! the tape's length -/
def P0 (h : xH) : Prop := fld h 1 2 = some (.int 0)
theorem P0_of {W : List (Nat × Nat)} {h h' : xH} {cs sl : Nat} (hc : CST W h h' cs sl) (hW : ¬ (100, 2) ∈ W) (hp : P0 h) : P0 h' := (hc.2.1.2 1 2 (by decide) hW).trans hp
/-- Row.clear, of the tape -/
theorem y_79 {d : Nat} {h : xH} (hI : INV h) : ∃ h', yex (d + 1) 79 [.ref 1] h = some (none, h', 0, 0) ∧ CST [(100, 2)] h h' 0 0 ∧ P0 h' := by
  obtain ⟨c, n, f, z, e1, -⟩ := row_of hI row_1
  have hp := put_ok (v := .int 0) hI (by decide) (by decide +kernel) (show h[1]? = some (.inr (oc 1, _)) from e1) (fk_2 1 row_1) ⟨_, rfl, by decide, by decide +kernel⟩ (by decide +kernel) (by decide +kernel)
  refine ⟨_, yex_of (k := 4) rfl rfl rfl ?_, hp, ?_⟩
  · refine xit_l (q := (none, (_, [.ref 1], h, 0, 0))) rfl ?_
    refine xit_l (q := (none, (_, [.int 0, .ref 1], h, 0, 0))) rfl ?_
    refine xit_l (rput (calls := yex d) (k := 2) (t := 0) e1 rfl rfl) ?_
    exact xit_r rfl
  · unfold P0 fld
    rw [List.getElem?_set_self ((List.getElem?_eq_some_iff.mp e1).1)]
    rfl
/-- a call of a method behind which the tape is empty -/
theorem gcall {calls : xC} {W : List (Nat × Nat)} {n : Nat} {A : cA} {q' : cSg} {j m : Nat} {ci : Option Nat} {R : List (Nat × cA)} (hP : ∀ h vs, INV h → aOK q'.1 vs → ∃ v h' cs sl, calls j vs h = some (v, h', cs, sl) ∧ P0 h') (ht : t_call q' m ci W n A = some R) : ∀ (loc : cLoc) (st : List Value) (hh : xH) (cs sl : Nat) (o : Option Nat) (loc' : cLoc) (st' : List Value) (h' : xH) (cs' sl' : Nat), INV hh → mA A loc st → xCall j m ci calls (loc, st, hh, cs, sl) = some (.inl (o, (loc', st', h', cs', sl'))) → P0 h' := by
  intro loc st hh cs sl o loc' st' h' cs' sl' hI hm hz
  unfold t_call at ht
  split at ht
  · rename_i hb
    rw [Bool.and_eq_true, Bool.and_eq_true, Bool.and_eq_true, Bool.and_eq_true] at hb
    obtain ⟨⟨b1, b2, b3⟩, b4, b5⟩ := hb
    obtain ⟨m1, m2, m3, m4⟩ := hm
    obtain ⟨s1, s2⟩ := mS_cut (m := m) m2
    have ha : aOK q'.1 (st.take m).reverse := by
      have := aOK_rev (B := []) (ws := []) s1 trivial
      rw [List.append_nil, List.append_nil] at this
      exact kles_ok b2 this
    obtain ⟨v, h2, cs2, sl2, e1, e2⟩ := hP hh _ hI ha
    unfold xCall at hz
    dsimp only at hz
    split at hz
    · rw [e1] at hz
      have hz := Sum.inl.inj (Option.some.inj hz)
      have : h2 = h' := congrArg (fun z : Option Nat × xS => z.2.2.2.1) hz
      rw [← this]
      exact e2
    · cases hz
  · cases ht
def chkP (sg : List (Nat × cSg)) (q : cSg) (L : xLD) (ml : Nat) (ret : Option FieldType) (E : xCd) (AN : cN) (fl : List Bool) (c : Nat) : Nat → xCd → cN → List (List (Nat × Nat)) → Bool
  | _, [], [], _ => true
  | n, e :: r, a :: an, W :: Ws => (Nat.beq n c || ((t_R q.2.1 ret e.2.1 e.2.2 a.1.2.1 && fl.getD n false) || chkW sg q W (fun t => !(fl.getD t false) || (fl.getD n false && !(wmem (100, 2) W))) L ml E AN n e r a)) && chkP sg q L ml ret E AN fl c (n + 1) r an Ws
  | _, _, _, _ => false
theorem chkP_at {sg : List (Nat × cSg)} {q : cSg} {L : xLD} {ml : Nat} {ret : Option FieldType} {E : xCd} {AN : cN} {fl : List Bool} {c : Nat} : ∀ {n : Nat} {l : xCd} {an : cN} {Ws : List (List (Nat × Nat))} {m : Nat} {a : cA × List (Nat × Nat)}, chkP sg q L ml ret E AN fl c n l an Ws = true → an[m]? = some a → ¬ n + m = c → ∃ e W, l[m]? = some e ∧ ((t_R q.2.1 ret e.2.1 e.2.2 a.1.2.1 && fl.getD (n + m) false) || chkW sg q W (fun t => !(fl.getD t false) || (fl.getD (n + m) false && !(wmem (100, 2) W))) L ml E AN (n + m) e (l.drop (m + 1)) a) = true
  | n, [], [], _, m, a, _, h, _ => by cases h
  | n, [], b :: an, _, m, a, h, _, _ => by cases h
  | n, e :: r, [], _, m, a, h, _, _ => by cases h
  | n, e :: r, b :: an, [], m, a, h, _, _ => by cases h
  | n, e :: r, b :: an, W :: Ws, m, a, h, hm, hne => by
    unfold chkP at h
    rw [Bool.and_eq_true] at h
    cases m with
    | zero =>
      cases hm
      refine ⟨e, W, rfl, ?_⟩
      have h1 := h.1
      rw [Bool.or_eq_true] at h1
      rcases h1 with h1 | h1
      · exact absurd (Nat.eq_of_beq_eq_true h1) hne
      · exact h1
    | succ m =>
      obtain ⟨e', W', e1, e2⟩ := chkP_at (m := m) h.2 (show an[m]? = some a from hm) (by omega)
      rw [show n + (m + 1) = n + 1 + m by omega]
      exact ⟨e', W', e1, e2⟩
theorem wmem_no {q : Nat × Nat} : ∀ {l : List (Nat × Nat)}, wmem q l = false → ¬ q ∈ l
  | [], _, h => absurd h List.not_mem_nil
  | p :: l, h, hq => by
    unfold wmem at h
    rw [Bool.or_eq_false_iff] at h
    rcases List.mem_cons.mp hq with rfl | hq
    · rw [Nat.beq_refl, Nat.beq_refl] at h
      cases h.1
    · exact wmem_no h.2 hq
/-- a method behind which the tape is empty: at c it is emptied -/
theorem emp_ok {d j c : Nat} {M : xM} {sg : List (Nat × cSg)} {q : cSg} {L : xLD} {ml : Nat} {ret : Option FieldType} {E : xCd} {AN : cN} {fl : List Bool} {Ws : List (List (Nat × Nat))} {a ac : cA × List (Nat × Nat)} {ec : Nat × Instr × Nat} {Wc : List (Nat × Nat)} {q' : cSg} {jc mc : Nat} {ci : Option Nat} {R : List (Nat × cA)} (hM : xsg j = some M) (hml : M.2.2.1 = ml) (hF : xpr j = some (xmk L ml ret false E E)) (h0 : AN[0]? = some a) (hf0 : fl.getD 0 false = false) (hk : ((kc2 q.1 && Nat.ble (exl q.1).length ml) && ale (exl q.1, [], [], []) a.1) = true) (hp : chkP sg q L ml ret E AN fl c 0 E AN Ws = true) (hc : ∀ p ∈ sg, CTR (yex d) p.1 p.2)
    (hac : AN[c]? = some ac) (hec : E[c]? = some ec) (hkc : chkW sg q Wc (fun _ => true) L ml E AN c ec (E.drop (c + 1)) ac = true) (hx : xIt L ml ret false E ec.1 ec.2.1 ec.2.2 (E.drop (c + 1)) = xCall jc mc ci) (ht : t_call q' mc ci Wc c ac.1 = some R) (hP : ∀ h vs, INV h → aOK q'.1 vs → ∃ v h' cs sl, yex d jc vs h = some (v, h', cs, sl) ∧ P0 h') {h : xH} {vs : List Value} (hI : INV h) (ha : aOK q.1 vs) : ∃ v h' cs sl, yex (d + 1) j vs h = some (v, h', cs, sl) ∧ rOK q.2.1 v ∧ CST q.2.2 h h' cs sl ∧ P0 h' := by
  refine gen_ok (AN := AN) (Y := fun n _ _ h => fl.getD n false = true → P0 h) (Z := fun _ h => P0 h) hM hml hF h0 hk (fun n a hn => ?_) hI ha (fun w => by rw [hf0] at w; cases w)
  by_cases e : n = c
  · subst e
    rw [hac] at hn
    cases hn
    refine ⟨ec, hec, gStp_W hc hkc (fun loc st h o loc' st' h' cs sl cs' sl' _ hI hm hy hz hC _ => ?_)⟩
    rw [hx] at hz
    exact gcall hP ht loc st h cs sl o loc' st' h' _ _ hI hm hz
  · obtain ⟨e', W, e1, e2⟩ := chkP_at hp hn (by omega)
    rw [Nat.zero_add] at e2
    refine ⟨e', e1, ?_⟩
    rw [Bool.or_eq_true] at e2
    rcases e2 with e2 | e2
    · rw [Bool.and_eq_true] at e2
      exact gStp_R e2.1 (fun loc st h v hI hm hy => hy e2.2)
    · refine gStp_W hc e2 (fun loc st h o loc' st' h' cs sl cs' sl' hT hI hm hy hz hC hfl => ?_)
      rw [Bool.or_eq_true, Bool.and_eq_true] at hT
      rcases hT with hT | ⟨hT, hW⟩
      · rw [hfl] at hT
        cases hT
      · refine P0_of hC (wmem_no ?_) (hy hT)
        cases hw : wmem (100, 2) W with
        | false => rfl
        | true => rw [hw] at hW; cases hW
