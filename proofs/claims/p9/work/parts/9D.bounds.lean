/-! ===== bounds ===== -/
/-- all arguments in a TYPE are within their bounds -/
def okB (G : PG) : Nat → List Nat → Prop
  | 0, _ => True
  | k + 1, L => ∃ x As, cutT L x As ∧ (x / 8 < 1000 → ∀ (a : Nat) (A : List Nat), As[a]? = some A → impl G A (subs (envS (1000 + 6 * (x / 8)) As 0 []) (gfb G (x / 8) a)) ∧ okB G k A)
def okBa (G : PG) (L : List Nat) : Prop := ∀ k, okB G k L
theorem okBa_mk {G : PG} {L : List Nat} {x : Nat} {As : List (List Nat)} (hc : cutT L x As) (h : x / 8 < 1000 → ∀ (a : Nat) (A : List Nat), As[a]? = some A → impl G A (subs (envS (1000 + 6 * (x / 8)) As 0 []) (gfb G (x / 8) a)) ∧ okBa G A) : okBa G L := by
  intro k
  cases k with
  | zero => trivial
  | succ k => exact ⟨x, As, hc, fun hx a A hA => ⟨(h hx a A hA).1, (h hx a A hA).2 k⟩⟩
theorem okBa_cut {G : PG} {L : List Nat} {x : Nat} {As : List (List Nat)} (h : okBa G L) (hc : cutT L x As) (hx : x / 8 < 1000) (a : Nat) (A : List Nat) (hA : As[a]? = some A) : impl G A (subs (envS (1000 + 6 * (x / 8)) As 0 []) (gfb G (x / 8) a)) ∧ okBa G A := by
  refine ⟨?_, fun k => ?_⟩
  · obtain ⟨x', As', hc', h'⟩ := h 1
    obtain ⟨e1, e2⟩ := cutT_inj hc hc'
    subst e1 e2
    exact (h' hx a A hA).1
  · obtain ⟨x', As', hc', h'⟩ := h (k + 1)
    obtain ⟨e1, e2⟩ := cutT_inj hc hc'
    subst e1 e2
    exact (h' hx a A hA).2
theorem envS_b1 {b0 b1 b2 : Nat} {As : List (List Nat)} : envS b0 As b1 [] = envS b0 As b2 [] := by
  funext c
  unfold envS grp
  split
  · rfl
  · split
    · rfl
    · simp
theorem rcs_le {Q : Nat → Nat → Nat → Prop} : ∀ {cs : List (Nat × Nat)} {q e : Nat}, rcs Q q cs e → q ≤ e
  | [], q, e, h => Nat.le_of_eq h
  | c :: cs, q, e, h => by
    have := rcs_le h.2
    omega
theorem rcs_seg {s : yS} {Q : Nat → Nat → Nat → Prop} (hQ : ∀ c p l, Q c p l → isF 1 (seg s p l)) : ∀ {cs : List (Nat × Nat)} {q e : Nat}, rcs Q q cs e → ∃ As : List (List Nat), As.length = cs.length ∧ seg s q (e - q) = As.flatten ∧ (∀ B ∈ As, isF 1 B) ∧ ∀ (a : Nat) (c : Nat × Nat), cs[a]? = some c → ∃ pa, Q c.1 pa c.2 ∧ As[a]? = some (seg s pa c.2) ∧ q ≤ pa ∧ pa + c.2 ≤ e
  | [], q, e, h => by
    have : q = e := h
    subst this
    exact ⟨[], rfl, by rw [Nat.sub_self]; rfl, fun B hB => absurd hB (List.not_mem_nil), fun a c hc => by simp at hc⟩
  | c :: cs, q, e, h => by
    obtain ⟨h1, h2⟩ := h
    obtain ⟨As, k1, k2, k3, k4⟩ := rcs_seg hQ h2
    have hle := rcs_le h2
    refine ⟨seg s q c.2 :: As, by simp [k1], ?_, fun B hB => ?_, fun a c' hc => ?_⟩
    · rw [show e - q = c.2 + (e - (q + c.2)) by omega, seg_add, k2]
      rfl
    · rcases List.mem_cons.mp hB with w | w
      · rw [w]; exact hQ _ _ _ h1
      · exact k3 B w
    · cases a with
      | zero =>
        have : c' = c := by simpa using hc.symm
        rw [this]
        exact ⟨q, h1, rfl, Nat.le_refl _, hle⟩
      | succ a =>
        obtain ⟨pa, w1, w2, w3, w4⟩ := k4 a c' hc
        exact ⟨pa, w1, w2, by omega, w4⟩
theorem chn_inj {s : yS} : ∀ {cs ds : List Nat} {x : Int}, chn s x cs → chn s x ds → cs = ds
  | [], [], _, _, _ => rfl
  | [], d :: ds, x, h, h' => by
    have h : x = -1 := h
    have h' : x = (d : Int) := h'.1
    omega
  | c :: cs, [], x, h, h' => by
    have h' : x = -1 := h'
    have h : x = (c : Int) := h.1
    omega
  | c :: cs, d :: ds, x, h, h' => by
    have e : c = d := by have := h.1; have := h'.1; omega
    subst e
    rw [chn_inj h.2 h'.2]
section BDS
variable {own : Nat → Nat × Nat} {b n N T F H S0 bt n2 W P E : Nat} {G : PG} {sc V : Nat → Prop}
/-- the state of the work -/
def WS (own : Nat → Nat × Nat) (b n N T F H S0 bt n2 W P E : Nat) (G : PG) (s : yS) : Prop := CK own b n N T F H S0 G s ∧ Lx bt n2 W s ∧ (0 ≤ (s.1 8).toInt ∧ (s.1 8).toInt ≤ 70000) ∧ (s.1 64).toInt = (P : Int) ∧ 13000 ≤ P ∧ P ≤ 199600 ∧ (s.1 70).toInt = (E : Int) ∧ E ≤ 290
theorem WS_xf {s s' : yS} {ks : List Nat} {P' E' : Nat} (h : WS own b n N T F H S0 bt n2 W P E G s) (hX : XF ks P' E' s s') (hk : 64 ∉ ks ∧ 70 ∉ ks ∧ 75 ∉ ks) (hP : 13000 ≤ P') (h8 : 0 ≤ (s'.1 8).toInt ∧ (s'.1 8).toInt ≤ 70000) : WS own b n N T F H S0 bt n2 W P E G s' := by
  obtain ⟨w1, w2, w3, w4, w5, w6, w7, w8⟩ := h
  exact ⟨CK_xf w1 hX hk.2.2 hP, Lx_xf w2 hX, h8, by rw [hX.1 64 hk.1]; exact w4, w5, w6, by rw [hX.1 70 hk.2.1]; exact w7, w8⟩
def b5K : List Nat := [8, 71, 72, 73, 74]
def BDP (own : Nat → Nat × Nat) (b n N T F H S0 bt n2 W P E : Nat) (G : PG) (sc V : Nat → Prop) (k d : Nat) : Prop := ∀ (s : yS) (a1 : Int32) (y h p l : Nat), WS own b n N T F H S0 bt n2 W P E G s → isY bt n2 s k h y → h ≤ 12006 → rsv s V k y p l → p + l ≤ 13000 → a1.toInt = (y : Int) → Tot d 211 [.ref 213, .int a1] s (fun v s' => v = none ∧ XF b5K P E s s' ∧ f8 s s' ∧ ((s'.1 8).toInt = 0 → okBa G (seg s p l)))
/-- the loop over the arguments: fits -/
theorem bd72 {e k y h p l x d : Nat} {As : List (List Nat)} {ds : List (Nat × Nat)} {a1 a2 a3 a5 : Int32} {s t : yS} (hE : E ≤ 289) (hS : WS own b n N T F H S0 bt n2 W P E G s) (hsc : scC G H sc) (hV : ∀ x, V x → vE G sc x) (hh : h ≤ 12006) (hc : cutT (seg s p l) x As) (hx : vE G sc x) (hxd : x / 8 = d) (hdT : d < T) (hAs : ∀ A ∈ As, okE G sc A) (hpl : p + l ≤ 13000)
    (hds : ∀ (a : Nat) (c : Nat × Nat), ds[a]? = some c → c.1 < 12006 ∧ (4002 * (bt : Int) ≤ (s.2.1 222 c.1).toInt ∧ (s.2.1 222 c.1).toInt ≤ 4002 * (bt : Int) + n2) ∧ ∃ pa, NY s c.1 pa c.2 ∧ As[a]? = some (seg s pa c.2) ∧ pa + c.2 ≤ 13000) (hlen : ds.length = As.length) (hch : chn s a5.toInt (ds.map (·.1))) (hpw : (ds.map (·.1)).Pairwise (· < ·)) (hok : ∀ A ∈ As, okBa G A)
    (hX : XF [8, 70, 71, 72, 73, 74] P E s t) (hf : f8 s t) (h70 : (t.1 70).toInt = (E : Int) + 1) (hW : EV t E P (1000 + 6 * d) As (t.2.1 265 (2 * E + 1)).toInt.toNat []) (h2 : a2.toInt = 24 * (b : Int) + d) (h3 : a3.toInt = (E : Int)) : wl_211_72 (Tot (e + 6)) a1 a2 a3 0 a5 t (fun v s' => v = none ∧ XF b5K P E s s' ∧ f8 s s' ∧ ((s'.1 8).toInt = 0 → okBa G (seg s p l))) := by
  obtain ⟨b1, hb1⟩ : ∃ b1, b1 = (t.2.1 265 (2 * E + 1)).toInt.toNat := ⟨_, rfl⟩
  rw [← hb1] at hW
  clear hb1
  obtain ⟨s1, s2, s3, s4, s5, s6, s7, s8⟩ := id hS
  obtain ⟨c1, c2, c3, c4, c5, c6, c7, c8, c9, c10⟩ := id s1
  have g1 : gT G = T := by rw [← c8]; exact (pgA c1).1
  have hfm : gfm G d = nT s 236 (24 * b + d) := by rw [← c8]; exact ((pgA c1).2.2.1 d hdT).1
  have hfb : ∀ a, a < gfm G d → gfb G d a = tyS s 238 (6 * (24 * b + d) + a) := fun a ha => by
    have := ((pgA c1).2.2.2.2.2.1 d a hdT).1
    rw [c8] at this
    exact this (by omega)
  have hxm : As.length = gfm G d := by
    rw [hc.2.2]
    rcases hx with w | w
    · rw [w.2, hxd]
    · have := c1.2.2.1
      omega
  refine ⟨fun z1 z2 z3 z4 z5 u => z2 = a2 ∧ z3 = a3 ∧ XF [8, 70, 71, 72, 73, 74] P E s u ∧ f8 s u ∧ (u.1 70).toInt = (E : Int) + 1 ∧ EV u E P (1000 + 6 * d) As b1 [] ∧ ∃ a : Nat, z4.toInt = (a : Int) ∧ a ≤ As.length ∧ chn s z5.toInt ((ds.drop a).map (·.1)) ∧ ((u.1 8).toInt = 0 → ∀ j, j < a → ∀ A, As[j]? = some A → impl G A (subs (envS (1000 + 6 * d) As 0 []) (gfb G d j))), fun _ _ _ z4 _ _ => (7 - z4.toInt).toNat, ⟨rfl, rfl, hX, hf, h70, hW, 0, by decide, by omega, hch, fun _ j hj => by omega⟩, ?_⟩
  clear hX hf h70 hW hch
  rintro z1 z2 z3 z4 z5 u ⟨y2, y3, uX, uf, u70, uV, a, u4, u5, u6, u7⟩
  have y2 := y2.symm
  have y3 := y3.symm
  subst y2 y3
  have hC6 : gfm G d ≤ 6 := (c9.2.1 d (by omega)).1
  have fin : ((u.1 8).toInt = 0 → a = As.length) → w_211_107 (Tot (e + 6)) z1 a2 a3 z4 z5 u (fun v s' => v = none ∧ XF b5K P E s s' ∧ f8 s s' ∧ ((s'.1 8).toInt = 0 → okBa G (seg s p l))) := by
    intro hend
    unfold w_211_107
    refine ⟨by omega, ?_⟩
    rintro x1 hx1 s2 rfl
    have : x1 = s.1 70 := Int32.toInt_inj.mp (by omega)
    rw [this]
    refine ⟨rfl, XF_back (XF_mo uX (by decide) (Nat.le_refl _) (Nat.le_refl _)), uf, fun q => okBa_mk hc (fun _ j A hA => ?_)⟩
    have q : (u.1 8).toInt = 0 := q
    have ea := hend q
    rw [hxd]
    have hj : j < As.length := by
      by_cases w : j < As.length
      · exact w
      · rw [List.getElem?_eq_none (by omega)] at hA
        cases hA
    exact ⟨u7 q j (by omega) A hA, hok A (List.mem_of_getElem? hA)⟩
  unfold w_211_72
  refine ⟨fun hneg => fin (fun _ => ?_), fun hpos => ⟨fun hne => fin (fun q => absurd q hne), fun h0 => ?_⟩⟩
  · cases hd : ds.drop a with
    | nil =>
      have := List.drop_eq_nil_iff.mp hd
      omega
    | cons c cs =>
      rw [hd] at u6
      have : z5.toInt = (c.1 : Int) := u6.1
      omega
  · cases hd : ds.drop a with
    | nil =>
      rw [hd] at u6
      have : z5.toInt = -1 := u6
      omega
    | cons c cs =>
      rw [hd] at u6
      obtain ⟨v1, v2⟩ := u6
      have v1 : z5.toInt = (c.1 : Int) := v1
      have hca : ds[a]? = some c := by
        have := congrArg List.head? hd
        rw [List.head?_drop] at this
        exact this
      have hcs : ds.drop (a + 1) = cs := by
        have := congrArg List.tail hd
        rw [List.tail_drop] at this
        exact this
      obtain ⟨k1, k2, pa, k3, k4, k5⟩ := hds a c hca
      have hal : a < As.length := by
        by_cases w : a < As.length
        · exact w
        · rw [List.getElem?_eq_none (by omega)] at k4
          cases k4
      have ez : z5.toInt.toNat = c.1 := by omega
      have r : ∀ q, q ∉ [264, 265, 266, 267, 268] → u.2.1 q = s.2.1 q := fun q hq => XF_row uX hq
      have hT24 := c1.2.2.1
      have hb2 := c1.1
      rw [ez]
      refine ⟨by omega, by omega, by omega, fun x1 hx1 => ⟨by omega, fun x2 hx2 => ?_⟩⟩
      refine ⟨by omega, by omega, ?_⟩
      have e2 : x2.toInt.toNat = 6 * (24 * b + d) + a := by omega
      have hv : vS b T H s 238 (6 * (24 * b + d) + a) := Or.inl ⟨d, a, hdT, by omega, rfl, rfl⟩
      obtain ⟨yy, pp, ll, o1, o2, o3, o4, o5, o6, o7⟩ := c2 _ _ hv
      have ok238 := (c9.2.2.2.1 d (by omega) a (by omega))
      rw [hfb a (by omega), SY_ty o1 o5] at ok238
      have segU : ∀ {p l}, p + l ≤ 13000 → seg u p l = seg s p l := fun h => XF_seg uX (by omega)
      have eV : envS (1000 + 6 * d) As b1 [] = envS (1000 + 6 * d) As 0 [] := envS_b1
      rw [e2, r 231 (by decide), r 232 (by decide), r 238 (by decide), r 222 (by decide)]
      refine Tot.imp (s_212 (e := e) (own := own) (b := b) (n := n) (N := N) (T := T) (F := F) (H := H) (S0 := S0) (bt := bt) (n2 := n2) (W := W) (P := P) (E := E + 1) (p := pa) (l := c.2) (y := yy) (p2 := pp) (l2 := ll) (ev := E) (b0 := 1000 + 6 * d) (b1 := b1) (As := As) (Bs := []) (sc := sc) (sc2 := scDg G d) (CK_xf s1 uX (by decide) s5) (Lx_xf s2 uX) uf.1 (by rw [uX.1 64 (by decide)]; exact s4) s5 s6 u70 (by omega) k3.2.1 k3.2.2.1 (by omega) hsc ?_ o1 (NY_xf o5 uX) ?_ h3 (by omega) uV (fun c hc => ?_) k2) ?_
      · rw [segU k5]
        exact hAs _ (List.mem_of_getElem? k4)
      · rw [segU o5.2.2.2.1]
        exact ok238.1
      · obtain ⟨A, w1, w2⟩ := dcl_cov (b1 := b1) (Bs := []) hxm hc
        exact Or.inl ⟨A, w1, hAs A w2⟩
      · rintro v u' ⟨rfl, x1', f1, i1⟩
        rw [segU k5, segU o5.2.2.2.1] at i1
        have r' : u'.2.1 225 = s.2.1 225 := by rw [XF_row x1' (by decide), r 225 (by decide)]
        refine ⟨rfl, by omega, fun x5 hx5 => ⟨by omega, ?_⟩⟩
        rw [r']
        refine ⟨⟨rfl, rfl, XF_tr uX x1' (by decide) (Nat.le_refl _) (by omega), f8_tr uf f1, by rw [x1'.1 70 (by decide)]; exact u70, EV_xf uV x1' (by omega) (Nat.le_refl _), a + 1, by omega, by omega, by rw [hcs]; exact v2, fun q j hj A hA => ?_⟩, by show (7 - x5.toInt).toNat < (7 - z4.toInt).toNat; omega⟩
        by_cases ej : j = a
        · rw [ej] at hA ⊢
          rw [k4] at hA
          cases hA
          have := (i1 q).1
          rw [hfb a (by omega), SY_ty o1 o5, ← eV]
          exact this
        · exact u7 (f1.2 q) j (by omega) A hA
end BDS
