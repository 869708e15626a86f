section BD2
variable {own : Nat → Nat × Nat} {b n N T F H S0 bt n2 W P E : Nat} {G : PG} {sc V : Nat → Prop}
/-- newEnv, and its first group -/
theorem nenv {e p l x c : Nat} {As : List (List Nat)} {a : Int32} {s : yS} {Φ : Option Value → yS → Prop} (hT : TYN s) (hG : GC s) (hE : (s.1 70).toInt = (E : Int)) (hE2 : E ≤ 290) (hl : seg s p l = x :: As.flatten) (hF : ∀ B ∈ As, isF 1 B) (hx : As.length = x % 8) (h6 : As.length ≤ 6) (hP : p + l ≤ P) (hP2 : P ≤ 200000) (hc : c ≤ 10000) {x1 : Int32} (h1 : x1.toInt = (E : Int) + 1) (ha : a.toInt = (p : Int)) {ac : Int32} (hac : ac.toInt = (c : Int)) (hΦ : ∀ t, XF [70] P E s t → (t.1 70).toInt = (E : Int) + 1 → EV t E P c As (t.2.1 265 (2 * E + 1)).toInt.toNat [] → Φ none t) : Tot (e + 2) 189 [.ref 213, .int (s.1 70), .int 0, .int ac, .int a] (sf (sa (sa s 266 (2 * E) 0) 266 (2 * E + 1) 0) 70 x1) Φ := by
  obtain ⟨u, hu⟩ : ∃ u, u = sf (sa (sa s 266 (2 * E) 0) 266 (2 * E + 1) 0) 70 x1 := ⟨_, rfl⟩
  rw [← hu]
  have uty : ∀ i, u.2.1 264 i = s.2.1 264 i := fun i => by
    rw [hu]
    show (sa (sa s 266 (2 * E) 0) 266 (2 * E + 1) 0).2.1 264 i = _
    rw [sa_2, if_neg (fun w => by omega), sa_2, if_neg (fun w => by omega)]
  have us : seg u p l = seg s p l := seg_eq (fun i _ _ => uty i)
  refine Tot.imp (s_189 (d := e) (P := P) (x := x) (As := As) (g := 0) (fun i => by rw [uty]; exact hT i) hE (by omega) (by decide) (by decide) hac ha (by rw [us]; exact hl) hF hx h6 hP hP2) ?_
  rintro v t ⟨rfl, hGF, hEV⟩
  have cell : ∀ q i, ¬ ((q = 265 ∨ q = 266) ∧ i = 2 * E) → ¬ ((q = 267 ∨ q = 268) ∧ 12 * E ≤ i ∧ i < 12 * E + 6) → t.2.1 q i = u.2.1 q i := fun q i w1 w2 => hGF.2.1 q i (fun w => by omega)
  have ucell : ∀ q i, ¬ (q = 266 ∧ 2 * E ≤ i) → u.2.1 q i = s.2.1 q i := fun q i w => by
    rw [hu]
    show (sa (sa s 266 (2 * E) 0) 266 (2 * E + 1) 0).2.1 q i = _
    rw [sa_2, if_neg (fun w' => w ⟨w'.1, by omega⟩), sa_2, if_neg (fun w' => w ⟨w'.1, by omega⟩)]
  have u1 : (u.2.1 266 (2 * E + 1)).toInt = 0 := by
    rw [hu]
    show ((sa (sa s 266 (2 * E) 0) 266 (2 * E + 1) 0).2.1 266 (2 * E + 1)).toInt = 0
    rw [sa_2, if_pos ⟨rfl, rfl⟩]
    decide
  have X : XF [70] P E s t := by
    refine ⟨fun k hk => ?_, fun q i w1 w2 w3 => ?_, ?_, fun i => ?_, fun i => ?_⟩
    · rw [hGF.1, hu, sf_1, if_neg (fun w => hk (by rw [w]; decide))]
      rfl
    · rw [cell q i (fun w => w2 ⟨w.1, by omega⟩) (fun w => w3 ⟨w.1, w.2.1⟩), ucell q i (fun w => w2 ⟨Or.inr w.1, w.2⟩)]
    · rw [hGF.2.2, hu]
      rfl
    · rw [cell 264 i (fun w => by omega) (fun w => by omega), uty]
      exact hT i
    · by_cases e : i = 2 * E
      · rw [e]
        have := hEV.1
        rw [show 2 * E + 0 = 2 * E from rfl] at this
        omega
      · rw [cell 265 i (fun w => e w.2) (fun w => by omega), ucell 265 i (fun w => by omega)]
        exact hG i
  refine hΦ t X ?_ ⟨hEV, ?_⟩
  · rw [hGF.1, hu, sf_1, if_pos rfl]
    exact h1
  · have g := X.2.2.2.2 (2 * E + 1)
    refine ⟨by omega, ?_, by decide, fun a A hA => by simp at hA⟩
    rw [cell 266 _ (fun w => by omega) (fun w => by omega), u1]
    rfl
theorem s_211s {k d : Nat} (hE : E ≤ 289) (hd : 7 ≤ d) (hsc : scC G H sc) (hV : ∀ x, V x → vE G sc x) (ih : BDP own b n N T F H S0 bt n2 W P E G sc V k d) : BDP own b n N T F H S0 bt n2 W P E G sc V (k + 1) (d + 1) := by
  intro s a1 y h p l hS hY hh hR hpl h1
  obtain ⟨s1, s2, s3, s4, s5, s6, s7, s8⟩ := id hS
  obtain ⟨c1, c2, c3, c4, c5, c6, c7, c8, c9, c10⟩ := id s1
  have g1 : gT G = T := by rw [← c8]; exact (pgA c1).1
  obtain ⟨i1, i0, i2, i3, i4, i5, ds, i6, i7, i8, i9, i10⟩ := id hY
  obtain ⟨r1, r2, r3, r4, r5, cs, r6, r7, r8⟩ := id hR
  have e1 : a1.toInt.toNat = y := by omega
  have eds : cs.map (·.1) = ds := chn_inj r6 i8
  have vx := hV _ r5
  obtain ⟨As, A1, A2, A3, A4⟩ := rcs_seg (s := s) (fun c p l hq => rsv_F hq) r8
  have hc : cutT (seg s p l) (tyE s p) As := by
    refine ⟨?_, A3, by rw [A1, r7]⟩
    have : seg s p l = tyE s p :: seg s (p + 1) (l - 1) := by
      cases l with
      | zero => omega
      | succ l => rfl
    rw [this, ← A2, show p + l - (p + 1) = l - 1 by omega]
  have kE : okE G sc (seg s p l) := ⟨rsv_F hR, fun x hx => hV x (rsv_V hR x hx)⟩
  have kA := (okE_cut hc kE).2
  -- each child
  have child : ∀ (a : Nat) (c : Nat × Nat), cs[a]? = some c → ∃ h' pa, h' ≤ h ∧ y < c.1 ∧ c.1 < h' ∧ isY bt n2 s k h' c.1 ∧ rsv s V k c.1 pa c.2 ∧ As[a]? = some (seg s pa c.2) ∧ pa + c.2 ≤ 13000 := by
    intro a c hca
    obtain ⟨pa, w1, w2, w3, w4⟩ := A4 a c hca
    have hm : c.1 ∈ ds := by rw [← eds]; exact List.mem_map_of_mem (List.mem_of_getElem? hca)
    obtain ⟨v1, h', v2, v3, v4⟩ := i10 _ hm
    exact ⟨h', pa, v2, v1, isY_lt v4, v4, w1, w2, by omega⟩
  refine t_211 ?_
  unfold w_211_0
  rw [e1]
  refine ⟨by omega, ?_⟩
  refine ⟨fun z1 z2 u => z1 = a1 ∧ XF b5K P E s u ∧ f8 s u ∧ ∃ a : Nat, a ≤ cs.length ∧ chn s z2.toInt ((cs.drop a).map (·.1)) ∧ ((u.1 8).toInt = 0 → ∀ j, j < a → ∀ A, As[j]? = some A → okBa G A), fun _ z2 _ => if z2.toInt < 0 then 0 else (13000 - z2.toInt).toNat + 1, ⟨rfl, XF_rf c5 c6, f8_rf s3, 0, by omega, r6, fun _ j hj => by omega⟩, ?_⟩
  rintro z1 z2 u ⟨y1, uX, uf, a, u4, u5, u6⟩
  have y1 := y1.symm
  subst y1
  have r : ∀ q, q ∉ [264, 265, 266, 267, 268] → u.2.1 q = s.2.1 q := fun q hq => XF_row uX hq
  have segU : ∀ {p l}, p + l ≤ 13000 → seg u p l = seg s p l := fun h => XF_seg uX (by omega)
  have fin : ((u.1 8).toInt = 0 → a = cs.length) → w_211_19 (Tot d) a1 z2 u (fun v s' => v = none ∧ XF b5K P E s s' ∧ f8 s s' ∧ ((s'.1 8).toInt = 0 → okBa G (seg s p l))) := by
    intro hend
    have u8 := uf.1
    unfold w_211_19 w_211_27
    rw [e1]
    refine ⟨fun hf => ⟨rfl, uX, uf, fun q => absurd q (by omega)⟩, fun hf => ⟨by omega, fun hm => ?_, fun hm => ⟨rfl, uX, uf, fun q => ?_⟩⟩⟩
    · rw [r 226 (by decide)] at hm
      have hlen : cs.length = ds.length := by rw [← eds, List.length_map]
      have q0 : (u.1 8).toInt = 0 := by omega
      have hx : tyE s p / 8 < T := by
        rcases vx with w | w
        · omega
        · omega
      obtain ⟨d', hd'⟩ : ∃ d', d' = tyE s p / 8 := ⟨_, rfl⟩
      have hT24 := c1.2.2.1
      have hb2 := c1.1
      have u75 : (u.1 75).toInt = (b : Int) := by rw [uX.1 75 (by decide)]; exact c7
      have uty : u.2.1 264 p = s.2.1 264 p := uX.2.1 264 p (fun w => by omega) (fun w => by omega) (fun w => by omega)
      have tp := c5 p
      have tpI : (s.2.1 264 p).toInt / 8 = (d' : Int) := by rw [hd']; unfold tyE; omega
      refine ⟨by omega, fun x1 hx1 => ⟨by omega, ?_⟩⟩
      rw [r 231 (by decide), show (s.2.1 231 y).toInt.toNat = p by omega, uty]
      refine ⟨by omega, ?_⟩
      refine Tot.imp (Tot.mono (by omega) (s_185 (d := 0) tp.1)) ?_
      rintro v s2 ⟨es, x4, rfl, hx4⟩
      have es := es.symm
      subst es
      refine ⟨x4, rfl, by omega, fun x5 hx5 => ?_⟩
      have u70 : (u.1 70).toInt = (E : Int) := by rw [uX.1 70 (by decide)]; exact s7
      refine Tot.imp (Tot.mono (by omega) (s_188 (d := 0) u70 (by omega))) ?_
      rintro v s6 ⟨rfl, x8, hx8, rfl⟩
      refine ⟨_, rfl, ?_⟩
      have q31 : (sf (sa (sa u 266 (2 * E) 0) 266 (2 * E + 1) 0) 70 x8).2.1 231 y = s.2.1 231 y := by
        show (sa (sa u 266 (2 * E) 0) 266 (2 * E + 1) 0).2.1 231 y = _
        rw [sa_2, if_neg (fun w => by omega), sa_2, if_neg (fun w => by omega), r 231 (by decide)]
      have q64 : (sf (sa (sa u 266 (2 * E) 0) 266 (2 * E + 1) 0) 70 x8).2.1 264 p = s.2.1 264 p := by
        show (sa (sa u 266 (2 * E) 0) 266 (2 * E + 1) 0).2.1 264 p = _
        rw [sa_2, if_neg (fun w => by omega), sa_2, if_neg (fun w => by omega), uty]
      rw [q31, show (s.2.1 231 y).toInt.toNat = p by omega, q64]
      refine ⟨by omega, by omega, ?_⟩
      refine Tot.imp (Tot.mono (by omega) (s_185 (d := 0) tp.1)) ?_
      rintro v s9 ⟨es, x11, rfl, hx11⟩
      subst es
      refine ⟨x11, rfl, by omega, fun x12 hx12 => ⟨by omega, fun x13 hx13 => ⟨by omega, ?_⟩⟩⟩
      rw [q31]
      have hA6 : As.length ≤ 6 := by rw [A1, hlen]; exact i7
      refine Tot.mono (show 0 + 2 ≤ d by omega) (nenv (e := 0) (P := P) (E := E) (p := p) (l := l) (x := tyE s p) (As := As) (c := 1000 + 6 * d') uX.2.2.2.1 uX.2.2.2.2 u70 (by omega) ?_ A3 hc.2.2 hA6 (by omega) (by omega) (by omega) hx8 (by omega) (by omega) (fun t tX t70 tV => ⟨rfl, ?_⟩))
      · rw [segU hpl]
        exact hc.1
      · have tr : ∀ q, q ∉ [264, 265, 266, 267, 268] → t.2.1 q = s.2.1 q := fun q hq => by rw [XF_row tX hq, r q hq]
        refine ⟨by omega, ?_⟩
        rw [tr 224 (by decide)]
        have X2 : XF [8, 70, 71, 72, 73, 74] P E s t := XF_tr (XF_mo uX (by decide) (Nat.le_refl _) (Nat.le_refl _)) tX (by decide) (Nat.le_refl _) (Nat.le_refl _)
        have t8 : f8 s t := f8_tr uf (f8_eq uf.1 (tX.1 8 (by decide)))
        obtain ⟨dd, rfl⟩ : ∃ dd, d = dd + 6 := ⟨d - 6, by omega⟩
        refine bd72 (e := dd) (k := k) (y := y) (h := h) (ds := cs) hE hS hsc hV hh hc vx hd'.symm (by omega) kA hpl (fun a c hca => ?_) (by rw [A1]) r6 (by rw [eds]; exact i9) (fun A hA => ?_) X2 t8 t70 tV (by omega) u70
        · obtain ⟨h', pa, w1, w2, w3, w4, w5, w6, w7⟩ := child a c hca
          cases k with
          | zero => exact absurd w4 id
          | succ k =>
            obtain ⟨m1, m2, m3, m4, -⟩ := id w5
            obtain ⟨-, -, v2, v3, -⟩ := id w4
            exact ⟨by omega, ⟨v2, by omega⟩, pa, ⟨by omega, m1, m2, w7, m4⟩, w6, w7⟩
        · obtain ⟨j, hj⟩ := List.getElem?_of_mem hA
          have hjl : j < As.length := by
            by_cases w : j < As.length
            · exact w
            · rw [List.getElem?_eq_none (by omega)] at hj
              cases hj
          exact u6 q0 j (by have := hend q0; omega) A hj
    · rw [r 226 (by decide)] at hm
      refine okBa_mk hc (fun _ j A hA => ?_)
      have : As.length = 0 := by rw [A1, ← List.length_map (f := (·.1)), eds]; omega
      rw [List.length_eq_zero_iff.mp this] at hA
      simp at hA
  unfold w_211_5
  refine ⟨fun hneg => fin (fun _ => ?_), fun hpos => ⟨fun hne => fin (fun q => absurd q hne), fun h0 => ?_⟩⟩
  · cases hd' : cs.drop a with
    | nil =>
      have := List.drop_eq_nil_iff.mp hd'
      omega
    | cons c cs' =>
      rw [hd'] at u5
      have : z2.toInt = (c.1 : Int) := u5.1
      omega
  · cases hd' : cs.drop a with
    | nil =>
      rw [hd'] at u5
      have : z2.toInt = -1 := u5
      omega
    | cons c cs' =>
      rw [hd'] at u5
      obtain ⟨v1, v2⟩ := u5
      have v1 : z2.toInt = (c.1 : Int) := v1
      have hca : cs[a]? = some c := by
        have := congrArg List.head? hd'
        rw [List.head?_drop] at this
        exact this
      have hcs : cs.drop (a + 1) = cs' := by
        have := congrArg List.tail hd'
        rw [List.tail_drop] at this
        exact this
      obtain ⟨h', pa, w1, w2, w3, w4, w5, w6, w7⟩ := child a c hca
      have hal : a < cs.length := by
        by_cases w : a < cs.length
        · exact w
        · rw [List.getElem?_eq_none (by omega)] at hca
          cases hca
      have uY : isY bt n2 u k h' c.1 := isY_eq (r 215 (by decide)) (r 217 (by decide)) k h' c.1 (fun x _ _ => ⟨by rw [r 221 (by decide)], by rw [r 222 (by decide)], by rw [r 224 (by decide)], fun _ => by rw [r 226 (by decide)], fun _ => by rw [r 225 (by decide)]⟩) w4
      · have uR : rsv u V k c.1 pa c.2 := rsv_eq w4 (fun x _ _ => ⟨by rw [r 231 (by decide)], by rw [r 232 (by decide)], by rw [r 224 (by decide)], fun _ => by rw [r 225 (by decide)]⟩) (fun i j1 j2 => uX.2.1 264 i (fun w => by omega) (fun w => by omega) (fun w => by omega)) w5
        refine Tot.imp (ih u z2 c.1 h' pa c.2 (WS_xf hS uX (by decide) s5 uf.1) uY (by omega) uR w7 v1) ?_
        rintro v u' ⟨rfl, x1', f1, o1⟩
        rw [segU w7] at o1
        have r' : u'.2.1 225 = s.2.1 225 := by rw [XF_row x1' (by decide), r 225 (by decide)]
        rw [show z2.toInt.toNat = c.1 by omega, r']
        refine ⟨rfl, by omega, ⟨rfl, XF_tr uX x1' (fun _ h => h) (Nat.le_refl _) (Nat.le_refl _), f8_tr uf f1, a + 1, by omega, by rw [hcs]; exact v2, fun q j hj A hA => ?_⟩, ?_⟩
        · by_cases ej : j = a
          · rw [ej, w6] at hA
            cases hA
            exact o1 q
          · exact u6 (f1.2 q) j (by omega) A hA
        · show (if (s.2.1 225 c.1).toInt < 0 then 0 else (13000 - (s.2.1 225 c.1).toInt).toNat + 1) < (if z2.toInt < 0 then 0 else (13000 - z2.toInt).toNat + 1)
          rw [if_neg hpos]
          cases cs' with
          | nil =>
            have : (s.2.1 225 c.1).toInt = -1 := v2
            rw [if_pos (by omega)]
            omega
          | cons c' cs'' =>
            have e' : (s.2.1 225 c.1).toInt = (c'.1 : Int) := v2.1
            have hca' : cs[a + 1]? = some c' := by
              have := congrArg List.head? hcs
              rw [List.head?_drop] at this
              exact this
            obtain ⟨h'', pa', t1, t2, t3, -⟩ := child (a + 1) c' hca'
            have hlt : c.1 < c'.1 := by
              have hp := i9
              rw [← eds] at hp
              have q1 : (cs.map (·.1))[a]? = some c.1 := by rw [List.getElem?_map, hca]; rfl
              have q2 : (cs.map (·.1))[a + 1]? = some c'.1 := by rw [List.getElem?_map, hca']; rfl
              obtain ⟨q3, q4⟩ := List.getElem?_eq_some_iff.mp q1
              obtain ⟨q5, q6⟩ := List.getElem?_eq_some_iff.mp q2
              have := List.pairwise_iff_getElem.mp hp a (a + 1) q3 q5 (by omega)
              rw [q4, q6] at this
              exact this
            rw [if_neg (by omega)]
            omega
theorem s_211 (hE : E ≤ 289) (hsc : scC G H sc) (hV : ∀ x, V x → vE G sc x) (k : Nat) : BDP own b n N T F H S0 bt n2 W P E G sc V k (k + 7) := by
  induction k with
  | zero =>
    intro s a1 y h p l _ hY
    exact absurd hY id
  | succ k ih => exact s_211s hE (by omega) hsc hV ih
end BD2
