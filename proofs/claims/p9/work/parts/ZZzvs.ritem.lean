/-! ===== the reference: instances: items and their rows; addRow ===== -/
/-- a TYPE without PARAMS as elements -/
def enI (ar : Int → Int) (A : List Int) : List Int := A.map (rhE ar 1000 2000)
/-- an item as a row has it: sort, word, how many TYPES, their elements -/
def RVl (ar : Int → Int) (nT : Int) (wr hw : Nat → Int) (H : Nat) (fx : Int → Int → Int) (v1 v2 v3 : Int) (E : List Int) (x : Mit) : Prop := (v1 = (x.1 : Int) ∧ v3 = (x.2.2.2.length : Int) + 1 ∧ x.2.2.2.length ≤ 6 ∧ E = enI ar (x.2.1 ++ x.2.2.2.flatten)) ∧ (TGo ar nT 0 0 x.2.1 ∧ ∀ T ∈ x.2.2.2, TGo ar nT 0 0 T) ∧ ((x.1 = 0 ∧ v2 = 0 ∧ x.2.2.1 = 0 ∧ x.2.2.2 = []) ∨ (x.1 = 1 ∧ ∃ g, g < H ∧ v2 = wr g ∧ x.2.2.1 = hw g) ∨ (x.1 = 2 ∧ ∃ g, g < H ∧ v2 = wr g ∧ x.2.2.1 = fx (x.2.1.headD 0) (hw g) ∧ 0 ≤ x.2.2.1))
/-- the rows are the items -/
def RIl (ar : Int → Int) (nT : Int) (wr hw : Nat → Int) (H : Nat) (fx : Int → Int → Int) (Dr : Mit → Prop) (Bd : Prop) (its : List Mit) (s : yS) : Prop := ((s.1 112).toInt = (its.length : Int) ∧ its.length ≤ 150) ∧ (20000 ≤ (s.1 118).toInt ∧ (s.1 118).toInt ≤ 20000 + 480 * (its.length : Int)) ∧ (∀ (i : Nat) (x : Mit), its[i]? = some x → ∃ E : List Int, (s.2.1 283 i).toInt = (E.length : Int) ∧ (20000 ≤ (s.2.1 282 i).toInt ∧ (s.2.1 282 i).toInt + (E.length : Int) ≤ (s.1 118).toInt) ∧ RWel s (s.2.1 282 i).toInt E ∧ RVl ar nT wr hw H fx (s.2.1 279 i).toInt (s.2.1 280 i).toInt (s.2.1 281 i).toInt E x) ∧ (its.Nodup ∧ ∀ x ∈ its, Dr x) ∧ ((s.1 111).toInt = 0 → Bd ∨ ∃ y, Dr y ∧ ¬ y ∈ its ∧ its.length = 150)
/-- what adding may write; T: the top -/
def IFj (T : Int) (s s' : yS) : Prop := (∀ k, ¬ k = 64 → ¬ k = 71 → ¬ k = 72 → ¬ k = 111 → ¬ k = 112 → ¬ k = 118 → s'.1 k = s.1 k) ∧ s'.2.2 = s.2.2 ∧ (∀ q j, (q < 264 ∨ (264 < q ∧ q < 279) ∨ 283 < q) → s'.2.1 q j = s.2.1 q j) ∧ (∀ q j : Nat, 279 ≤ q → q ≤ 283 → (j : Int) < (s.1 112).toInt → s'.2.1 q j = s.2.1 q j) ∧ (∀ j : Nat, ((j : Int) < (s.1 118).toInt ∨ (100000 ≤ (j : Int) ∧ (j : Int) < T)) → s'.2.1 264 j = s.2.1 264 j) ∧ ((s.1 112).toInt ≤ (s'.1 112).toInt ∧ (s.1 118).toInt ≤ (s'.1 118).toInt) ∧ ((s.1 111).toInt = 0 → (s'.1 111).toInt = 0)
section ZVS
variable {ar : Int → Int} {nT : Int} {wr hw : Nat → Int} {H : Nat} {fx : Int → Int → Int} {Dr : Mit → Prop} {Bd : Prop} {its : List Mit} {s s' u w : yS} {v1 v2 v3 u1 u2 u3 T T' M : Int} {E F A A' X Y : List Int} {x y : Mit} {d : Nat} {a1 a2 a3 a4 a5 : Int32}
theorem IFj_rf : IFj T s s := ⟨fun _ _ _ _ _ _ _ => rfl, rfl, fun _ _ _ => rfl, fun _ _ _ _ _ => rfl, fun _ _ => rfl, ⟨Int.le_refl _, Int.le_refl _⟩, fun h => h⟩
theorem IFj_tr (h : IFj T s u) (g : IFj T' u w) (hT : T ≤ T') : IFj T s w := by
  obtain ⟨h1, h2, h3, h4, h5, ⟨h6, h7⟩, h8⟩ := h
  obtain ⟨g1, g2, g3, g4, g5, ⟨g6, g7⟩, g8⟩ := g
  refine ⟨fun k a1 a2 a3 a4 a5 a6 => (g1 k a1 a2 a3 a4 a5 a6).trans (h1 k a1 a2 a3 a4 a5 a6), g2.trans h2, fun q j hq => (g3 q j hq).trans (h3 q j hq), fun q j q1 q2 hj => (g4 q j q1 q2 (by omega)).trans (h4 q j q1 q2 hj), fun j hj => (g5 j (by omega)).trans (h5 j hj), ⟨by omega, by omega⟩, fun z => g8 (h8 z)⟩
theorem IFj_T (h : IFj T' s u) (hT : T ≤ T') : IFj T s u := IFj_tr IFj_rf h hT
/-- elements ahead of the rows, or between them and the top -/
theorem IFj_el (h : IFj T s s') {p : Int} (h0 : 0 ≤ p) (hp : p + (E.length : Int) ≤ (s.1 118).toInt ∨ (100000 ≤ p ∧ p + (E.length : Int) ≤ T)) (g : RWel s p E) : RWel s' p E := fun i c hc => by
  have hi := (List.getElem?_eq_some_iff.mp hc).1
  rw [← g i c hc, KI_p (by omega), KI_p (by omega), h.2.2.2.2.1 _ (by omega)]
/-- putting a TYPE -/
theorem IFj_pk (h : PKf T s s') (hk : ∀ k, ¬ k = 64 → ¬ k = 71 → ¬ k = 72 → s'.1 k = s.1 k) (hM : (s.1 118).toInt ≤ T) : IFj T s s' := ⟨fun k a1 a2 a3 _ _ _ => hk k a1 a2 a3, h.1, fun q j hq => h.2.1 q j (by omega), fun q j q1 q2 _ => h.2.1 q j (by omega), fun j hj => h.2.2 j (by omega), ⟨by rw [hk 112 (by decide) (by decide) (by decide)]; exact Int.le_refl _, by rw [hk 118 (by decide) (by decide) (by decide)]; exact Int.le_refl _⟩, fun z => by rw [hk 111 (by decide) (by decide) (by decide)]; exact z⟩
theorem IFj_64 {v : Int32} : IFj T s (sf s 64 v) := ⟨fun k a1 _ _ _ _ _ => by rw [sfr_1, if_neg a1], rfl, fun _ _ _ => rfl, fun _ _ _ _ _ => rfl, fun _ _ => rfl, ⟨Int.le_refl _, Int.le_refl _⟩, fun z => z⟩
/-- the flag is set so where it was not 0, or to 0 -/
theorem IFj_fl {v : Int32} (hv : ¬ (s.1 111).toInt = 0 ∨ v.toInt = 0) : IFj T s (sf s 111 v) := by
  refine ⟨fun k _ _ _ a4 _ _ => by rw [sfr_1, if_neg a4], rfl, fun _ _ _ => rfl, fun _ _ _ _ _ => rfl, fun _ _ => rfl, ⟨Int.le_refl _, Int.le_refl _⟩, fun z => ?_⟩
  rw [sfr_1, if_pos rfl]
  rcases hv with q | q
  · exact absurd z q
  · exact q
/-- the rows stand where nothing of them was touched -/
theorem RIl_f (h : RIl ar nT wr hw H fx Dr Bd its s) (h12 : s'.1 112 = s.1 112) (h18 : s'.1 118 = s.1 118) (hr : ∀ q j : Nat, 279 ≤ q → q ≤ 283 → j < its.length → s'.2.1 q j = s.2.1 q j) (ht : ∀ j : Nat, 20000 ≤ (j : Int) → (j : Int) < (s.1 118).toInt → s'.2.1 264 j = s.2.1 264 j) (hf : (s'.1 111).toInt = 0 → Bd ∨ ∃ y, Dr y ∧ ¬ y ∈ its ∧ its.length = 150) : RIl ar nT wr hw H fx Dr Bd its s' := by
  obtain ⟨g1, g2, g3, g4, -⟩ := h
  refine ⟨by rw [h12]; exact g1, by rw [h18]; exact g2, fun i x hx => ?_, g4, hf⟩
  have hi := (List.getElem?_eq_some_iff.mp hx).1
  obtain ⟨E, k1, k2, k3, k4⟩ := g3 i x hx
  refine ⟨E, by rw [hr 283 i (by decide) (by decide) hi]; exact k1, by rw [hr 282 i (by decide) (by decide) hi, h18]; exact k2, ?_, by rw [hr 279 i (by decide) (by decide) hi, hr 280 i (by decide) (by decide) hi, hr 281 i (by decide) (by decide) hi]; exact k4⟩
  rw [hr 282 i (by decide) (by decide) hi]
  intro j c hc
  have hj := (List.getElem?_eq_some_iff.mp hc).1
  rw [← k3 j c hc, KI_p (by omega), KI_p (by omega), ht _ (by omega) (by omega)]
theorem RIl_j (h : RIl ar nT wr hw H fx Dr Bd its s) (F : IFj T s s') (h12 : s'.1 112 = s.1 112) (h18 : s'.1 118 = s.1 118) (hf : (s'.1 111).toInt = 0 → Bd ∨ ∃ y, Dr y ∧ ¬ y ∈ its ∧ its.length = 150) : RIl ar nT wr hw H fx Dr Bd its s' := RIl_f h h12 h18 (fun q j q1 q2 hj => F.2.2.2.1 q j q1 q2 (by have := h.1.1; omega)) (fun j _ hj => F.2.2.2.2.1 j (Or.inl hj)) hf
theorem RIl_M (h : RIl ar nT wr hw H fx Dr Bd its s) : 20000 ≤ (s.1 118).toInt ∧ (s.1 118).toInt ≤ 92000 := by
  have h1 := h.1.2
  have h2 := h.2.1
  omega
/-- TYPES side by side are told apart in one way -/
theorem TY_un (hA : isR ar 1 A) (hB : isR ar 1 A') (e : A ++ X = A' ++ Y) : A = A' ∧ X = Y := by
  have h1 := tkT_app A X 1 hA
  have h2 := tkT_app A' Y 1 hB
  rw [e, h2] at h1
  exact ⟨(congrArg Prod.fst h1).symm, (congrArg Prod.snd h1).symm⟩
theorem TYs_un : ∀ Z Z' : List (List Int), Z.length = Z'.length → (∀ B ∈ Z, isR ar 1 B) → (∀ B ∈ Z', isR ar 1 B) → Z.flatten = Z'.flatten → Z = Z'
  | [], [], _, _, _, _ => rfl
  | [], _ :: _, h, _, _, _ => by cases h
  | _ :: _, [], h, _, _, _ => by cases h
  | B :: Z, B' :: Z', hl, h, h', e => by
    rw [List.flatten_cons, List.flatten_cons] at e
    obtain ⟨e1, e2⟩ := TY_un (h B List.mem_cons_self) (h' B' List.mem_cons_self) e
    rw [e1, TYs_un Z Z' (by rw [List.length_cons, List.length_cons] at hl; omega) (fun C hC => h C (List.mem_cons_of_mem _ hC)) (fun C hC => h' C (List.mem_cons_of_mem _ hC)) e2]
theorem enI_len : (enI ar A).length = A.length := List.length_map _
/-- rows are alike where the items are one -/
theorem RVl_eq (ha : ∀ c, 0 ≤ ar c ∧ ar c ≤ 7) (hH : ∀ g g', g < H → g' < H → (wr g = wr g' ↔ hw g = hw g')) (hf : ∀ c g g', g < H → g' < H → 0 ≤ fx c (hw g) → fx c (hw g) = fx c (hw g') → hw g = hw g') (p : RVl ar nT wr hw H fx v1 v2 v3 E x) (q : RVl ar nT wr hw H fx u1 u2 u3 F y) : x = y ↔ (v1 = u1 ∧ v2 = u2 ∧ v3 = u3 ∧ E = F) := by
  obtain ⟨⟨p1, p2, p3, p4⟩, ⟨p5, p6⟩, p7⟩ := p
  obtain ⟨⟨q1, q2, q3, q4⟩, ⟨q5, q6⟩, q7⟩ := q
  constructor
  · intro e
    subst e
    refine ⟨p1.trans q1.symm, ?_, p2.trans q2.symm, p4.trans q4.symm⟩
    rcases p7 with ⟨c1, c2, -⟩ | ⟨c1, g, g1, g2, g3⟩ | ⟨c1, g, g1, g2, g3, g4⟩
    · rcases q7 with ⟨e1, e2, -⟩ | ⟨e1, -⟩ | ⟨e1, -⟩
      · rw [c2, e2]
      · exact absurd (c1.symm.trans e1) (by decide)
      · exact absurd (c1.symm.trans e1) (by decide)
    · rcases q7 with ⟨e1, -⟩ | ⟨e1, g', k1, k2, k3⟩ | ⟨e1, -⟩
      · exact absurd (c1.symm.trans e1) (by decide)
      · rw [g2, k2]
        exact (hH g g' g1 k1).mpr (g3.symm.trans k3)
      · exact absurd (c1.symm.trans e1) (by decide)
    · rcases q7 with ⟨e1, -⟩ | ⟨e1, -⟩ | ⟨e1, g', k1, k2, k3, k4⟩
      · exact absurd (c1.symm.trans e1) (by decide)
      · exact absurd (c1.symm.trans e1) (by decide)
      · rw [g2, k2]
        exact (hH g g' g1 k1).mpr (hf _ g g' g1 k1 (by rw [← g3]; exact g4) (g3.symm.trans k3))
  · rintro ⟨e1, e2, e3, e4⟩
    have cl : ∀ z : Mit, TGo ar nT 0 0 z.2.1 → (∀ B ∈ z.2.2.2, TGo ar nT 0 0 B) → ∀ c ∈ z.2.1 ++ z.2.2.2.flatten, 0 ≤ c ∧ c < 42 := fun z z1 z2 c hc => by
      rcases List.mem_append.mp hc with w | w
      · have := cd_cl z1.2.2 c w
        omega
      · obtain ⟨B, hB, w⟩ := List.mem_flatten.mp w
        have := cd_cl (z2 B hB).2.2 c w
        omega
    rw [p4, q4] at e4
    have e5 := enc_inj ha (by unfold bOK; omega) _ _ (cl x p5 p6) (cl y q5 q6) e4
    obtain ⟨e6, e7⟩ := TY_un p5.1 q5.1 e5
    have e8 := TYs_un _ _ (by omega) (fun B hB => (p6 B hB).1) (fun B hB => (q6 B hB).1) e7
    have ew : x.2.2.1 = y.2.2.1 := by
      rcases p7 with ⟨c1, -, c3, -⟩ | ⟨c1, g, g1, g2, g3⟩ | ⟨c1, g, g1, g2, g3, g4⟩
      · rcases q7 with ⟨k1, -, k3, -⟩ | ⟨k1, -⟩ | ⟨k1, -⟩
        · rw [c3, k3]
        · omega
        · omega
      · rcases q7 with ⟨k1, -⟩ | ⟨k0, g', k1, k2, k3⟩ | ⟨k1, -⟩
        · omega
        · rw [g3, k3]
          exact (hH g g' g1 k1).mp (by rw [← g2, ← k2]; exact e2)
        · omega
      · rcases q7 with ⟨k1, -⟩ | ⟨k1, -⟩ | ⟨k0, g', k1, k2, k3, k4⟩
        · omega
        · omega
        · rw [g3, k3, e6, (hH g g' g1 k1).mp (by rw [← g2, ← k2]; exact e2)]
    exact Prod.ext (by omega) (Prod.ext e6 (Prod.ext ew e8))
set_option maxHeartbeats 2000000 in
/-- addRow -/
theorem x_250 (ha : ∀ c, 0 ≤ ar c ∧ ar c ≤ 7) (hH : ∀ g g', g < H → g' < H → (wr g = wr g' ↔ hw g = hw g')) (hf : ∀ c g g', g < H → g' < H → 0 ≤ fx c (hw g) → fx c (hw g) = fx c (hw g') → hw g = hw g') (hI : RIl ar nT wr hw H fx Dr Bd its s) (hv : RVl ar nT wr hw H fx a1.toInt a2.toInt a3.toInt E y) (h5 : a5.toInt = (E.length : Int)) (hl : E.length ≤ 480) (hw' : RWel s a4.toInt E) (hp : 0 ≤ a4.toInt ∧ (a4.toInt + (E.length : Int) ≤ 20000 ∨ 100000 ≤ a4.toInt)) (hD : Dr y) : Par d 250 [.ref 213, .int a1, .int a2, .int a3, .int a4, .int a5] s (fun v s' => v = none ∧ (∀ k, ¬ k = 111 → ¬ k = 112 → ¬ k = 118 → s'.1 k = s.1 k) ∧ (∀ T, IFj T s s') ∧ ∃ ws, RIl ar nT wr hw H fx Dr Bd (its ++ ws) s' ∧ (¬ (s'.1 111).toInt = 0 → y ∈ its ++ ws) ∧ (ws = [] ∨ (ws = [y] ∧ s'.1 111 = s.1 111))) := by
  cases d with
  | zero => exact Par_0
  | succ d =>
    obtain ⟨⟨n1, n2⟩, ⟨m1, m2⟩, n3, ⟨n4, n5⟩, n6⟩ := id hI
    refine pb_250 ?_
    unfold ub_250_0
    obtain ⟨I, hI'⟩ : ∃ I : Int32 → Int32 → Int32 → Int32 → Int32 → Int32 → Int32 → yS → Prop, I = fun b1 b2 b3 b4 b5 b6 b7 u => b1 = a1 ∧ b2 = a2 ∧ b3 = a3 ∧ b4 = a4 ∧ b5 = a5 ∧ u = s ∧ ∃ i : Nat, b7.toInt = (i : Int) ∧ i ≤ its.length ∧ ((b6.toInt = 0 ∧ ∀ (j : Nat) (x : Mit), j < i → its[j]? = some x → ¬ x = y) ∨ (¬ b6.toInt = 0 ∧ y ∈ its)) := ⟨_, rfl⟩
    refine ⟨I, ?_, ?_⟩
    · rw [hI']
      exact ⟨rfl, rfl, rfl, rfl, rfl, rfl, 0, by decide, Nat.zero_le _, Or.inl ⟨by decide, fun j _ hj => absurd hj (Nat.not_lt_zero _)⟩⟩
    intro b1 b2 b3 b4 b5 b6 b7 u hu
    rw [hI'] at hu
    obtain ⟨e1, e2, e3, e4, e5, e6, i, i1, i2, i3⟩ := hu
    subst e1 e2 e3 e4 e5 e6
    have fin : (b6.toInt = 0 → i = its.length) → ub_250_47 (Par d) b1 b2 b3 b4 b5 b6 b7 u (fun v s' => v = none ∧ (∀ k, ¬ k = 111 → ¬ k = 112 → ¬ k = 118 → s'.1 k = u.1 k) ∧ (∀ T, IFj T u s') ∧ ∃ ws, RIl ar nT wr hw H fx Dr Bd (its ++ ws) s' ∧ (¬ (s'.1 111).toInt = 0 → y ∈ its ++ ws) ∧ (ws = [] ∨ (ws = [y] ∧ s'.1 111 = u.1 111))) := by
      intro hend
      unfold ub_250_47 ub_250_52
      refine ⟨fun z => ?_, fun z => ⟨fun hfl => ⟨fun hne k1 s1 hs1 k2 s2 hs2 k3 s3 hs3 k4 s4 hs4 k5 s5 hs5 => ?_, fun h150 s6 hs6 => ?_⟩, fun hfl => ?_⟩⟩
      · have hin : y ∈ its := by
          rcases i3 with q | q
          · exact absurd q.1 z
          · exact q.2
        exact ⟨rfl, fun _ _ _ _ => rfl, fun _ => IFj_rf, [], by rw [List.append_nil]; exact hI, fun _ => by rw [List.append_nil]; exact hin, Or.inl rfl⟩
      · have ei := hend z
        have hnew : ¬ y ∈ its := fun hm => by
          obtain ⟨j, hj⟩ := List.getElem?_of_mem hm
          have hjl := (List.getElem?_eq_some_iff.mp hj).1
          rcases i3 with q | q
          · exact q.2 j y (by omega) hj rfl
          · exact q.1 z
        have hlt : its.length < 150 := by omega
        have g1 : s1.1 = u.1 := by rw [hs1, sa_1r]
        have g2 : s2.1 = u.1 := by rw [hs2, sa_1r]; exact g1
        have g3 : s3.1 = u.1 := by rw [hs3, sa_1r]; exact g2
        have g4 : s4.1 = u.1 := by rw [hs4, sa_1r]; exact g3
        have g5 : s5.1 = u.1 := by rw [hs5, sa_1r]; exact g4
        have e112 : ∀ t : yS, t.1 = u.1 → (t.1 112).toInt.toNat = its.length := fun t ht => by rw [ht]; omega
        have r5 : ∀ q j, s5.2.1 q j = if q = 283 ∧ j = its.length then b5 else if q = 282 ∧ j = its.length then u.1 118 else if q = 281 ∧ j = its.length then b3 else if q = 280 ∧ j = its.length then b2 else if q = 279 ∧ j = its.length then b1 else u.2.1 q j := fun q j => by
          rw [hs5, sa_21, e112 s4 g4, hs4, sa_21, e112 s3 g3, g3, hs3, sa_21, e112 s2 g2, hs2, sa_21, e112 s1 g1, hs1, sa_21, e112 u rfl]
        have l5 : s5.2.2 = u.2.2 := by
          rw [hs5, hs4, hs3, hs2, hs1]
          rfl
        clear hs1 hs2 hs3 hs4 hs5 k1 k2 k3 k4 k5 g1 g2 g3 g4
        have o5 : ∀ q j, ¬ (279 ≤ q ∧ q ≤ 283 ∧ j = its.length) → s5.2.1 q j = u.2.1 q j := fun q j h => by
          rw [r5, if_neg (fun w => h (by omega)), if_neg (fun w => h (by omega)), if_neg (fun w => h (by omega)), if_neg (fun w => h (by omega)), if_neg (fun w => h (by omega))]
        refine ⟨fun c1 c2 c3 c4 c5 c6 c7 t => c4 = b4 ∧ c5 = b5 ∧ t.1 = u.1 ∧ t.2.2 = u.2.2 ∧ (∀ (q j : Nat), ¬ (q = 264 ∧ (u.1 118).toInt ≤ (j : Int) ∧ (j : Int) < 100000) → t.2.1 q j = s5.2.1 q j) ∧ ∃ k : Nat, c7.toInt = (k : Int) ∧ k ≤ E.length ∧ RWel t (u.1 118).toInt (E.take k), ⟨rfl, rfl, g5, l5, fun _ _ _ => rfl, 0, by decide, Nat.zero_le _, fun j c hc => by cases hc⟩, ?_⟩
        rintro c1 c2 c3 c4 c5 c6 c7 t ⟨f4, f5, t1, t2, t3, k, k1, k2, k3⟩
        subst f4 f5
        unfold ub_250_94
        rw [t1]
        refine ⟨fun hend2 _ x1 hx1 s2 hs2 _ x3 hx3 s4 hs4 => ?_, fun hmore _ x5 hx5 _ x6 hx6 kb6 kb5 s7 hs7 _ x8 hx8 => ?_⟩
        · have ek : k = E.length := by omega
          rw [ek, List.take_length] at k3
          have F : ∀ q, s4.1 q = if q = 112 then x3 else if q = 118 then x1 else u.1 q := fun q => by rw [hs4, sfr_1, hs2, sfr_1, t1]
          have r4 : s4.2 = t.2 := by rw [hs4, sfr_2, hs2, sfr_2]
          have hx3' : x3.toInt = (u.1 112).toInt + 1 := by
            rw [hx3, hs2, sfr_1, if_neg (by decide), t1]
          have c4' : ∀ q j, ¬ (279 ≤ q ∧ q ≤ 283 ∧ j = its.length) → ¬ (q = 264 ∧ (u.1 118).toInt ≤ (j : Int) ∧ (j : Int) < 100000) → s4.2.1 q j = u.2.1 q j := fun q j h1 h2 => by rw [r4, t3 q j h2, o5 q j h1]
          have f12 : (s4.1 112).toInt = (its.length : Int) + 1 := by rw [F, if_pos rfl]; omega
          have f18 : (s4.1 118).toInt = (u.1 118).toInt + (E.length : Int) := by rw [F, if_neg (by decide), if_pos rfl]; omega
          have f11 : s4.1 111 = u.1 111 := by rw [F, if_neg (by decide), if_neg (by decide)]
          have hlen : (its ++ [y]).length = its.length + 1 := by rw [List.length_append, List.length_singleton]
          refine ⟨rfl, fun q q1 q2 q3 => by rw [F, if_neg q2, if_neg q3], fun T => ⟨fun q _ _ _ q1 q2 q3 => by rw [F, if_neg q2, if_neg q3], by rw [r4]; exact t2, fun q j hq => c4' q j (by omega) (by omega), fun q j q1 q2 hj => c4' q j (by omega) (by omega), fun j hj => c4' 264 j (by omega) (by omega), ⟨by omega, by omega⟩, fun z => by rw [f11]; exact z⟩, [y], ⟨⟨by rw [hlen]; omega, by omega⟩, ⟨by omega, by rw [hlen]; omega⟩, fun j x hx => ?_, ⟨nd_snoc n4 hnew, fun x hx => ?_⟩, fun z => absurd (by rw [← f11]; exact z) hfl⟩, fun _ => List.mem_append_right _ (List.mem_singleton.mpr rfl), Or.inr ⟨rfl, f11⟩⟩
          · by_cases ej : j = its.length
            · rw [ej, List.getElem?_concat_length] at hx
              rw [← Option.some.inj hx, ej]
              have e1 : s4.2.1 279 its.length = b1 := by rw [r4, t3 _ _ (by omega), r5, if_neg (by omega), if_neg (by omega), if_neg (by omega), if_neg (by omega), if_pos ⟨rfl, rfl⟩]
              have e2 : s4.2.1 280 its.length = b2 := by rw [r4, t3 _ _ (by omega), r5, if_neg (by omega), if_neg (by omega), if_neg (by omega), if_pos ⟨rfl, rfl⟩]
              have e3 : s4.2.1 281 its.length = b3 := by rw [r4, t3 _ _ (by omega), r5, if_neg (by omega), if_neg (by omega), if_pos ⟨rfl, rfl⟩]
              have e4 : s4.2.1 282 its.length = u.1 118 := by rw [r4, t3 _ _ (by omega), r5, if_neg (by omega), if_pos ⟨rfl, rfl⟩]
              have e5 : s4.2.1 283 its.length = c5 := by rw [r4, t3 _ _ (by omega), r5, if_pos ⟨rfl, rfl⟩]
              refine ⟨E, by rw [e5]; exact h5, by rw [e4]; omega, ?_, by rw [e1, e2, e3]; exact hv⟩
              rw [e4]
              intro i' c hc
              rw [r4]
              exact k3 i' c hc
            · have hjl := (List.getElem?_eq_some_iff.mp hx).1
              rw [hlen] at hjl
              rw [List.getElem?_append_left (by omega)] at hx
              obtain ⟨E', w1, w2, w3, w4⟩ := n3 j x hx
              have cc : ∀ q, 279 ≤ q → q ≤ 283 → s4.2.1 q j = u.2.1 q j := fun q q1 q2 => c4' q j (by omega) (by omega)
              refine ⟨E', by rw [cc 283 (by decide) (by decide)]; exact w1, by rw [cc 282 (by decide) (by decide)]; omega, ?_, by rw [cc 279 (by decide) (by decide), cc 280 (by decide) (by decide), cc 281 (by decide) (by decide)]; exact w4⟩
              rw [cc 282 (by decide) (by decide)]
              intro i' c hc
              have hi' := (List.getElem?_eq_some_iff.mp hc).1
              rw [← w3 i' c hc, KI_p (by omega), KI_p (by omega), c4' 264 _ (by omega) (by omega)]
          · rcases List.mem_append.mp hx with q | q
            · exact n5 x q
            · rw [List.mem_singleton.mp q]
              exact hD
        · have hk : k < E.length := by omega
          obtain ⟨c, hc⟩ : ∃ c, E[k]? = some c := ⟨_, List.getElem?_eq_getElem hk⟩
          have wE : RWel t c4.toInt E := fun j c' hj => by
            have hj1 := (List.getElem?_eq_some_iff.mp hj).1
            rw [← hw' j c' hj, KI_p (by omega), KI_p (by omega), t3 _ _ (by omega), o5 _ _ (by omega)]
          have vc : (t.2.1 264 x6.toInt.toNat).toInt = c := RWel_at wE hc (by omega) kb6.1
          have h1 : s7.1 = u.1 := by rw [hs7, sa_1r]; exact t1
          refine ⟨rfl, rfl, h1, ?_, fun q j h => ?_, k + 1, by omega, by omega, ?_⟩
          · rw [hs7]
            exact t2
          · rw [hs7, sa_21, if_neg (fun w => h (by omega)), t3 q j h]
          · rw [take_s hc, hs7]
            have hlk : (E.take k).length = k := by rw [List.length_take]; omega
            exact RWel_s (by omega) (by omega) vc k3
      · have F : ∀ q, s6.1 q = if q = 111 then 0 else u.1 q := fun q => by rw [hs6, sfr_1]
        have r6 : s6.2 = u.2 := by rw [hs6, sfr_2]
        have ei := hend z
        have hnew : ¬ y ∈ its := fun hm => by
          obtain ⟨j, hj⟩ := List.getElem?_of_mem hm
          have hjl := (List.getElem?_eq_some_iff.mp hj).1
          rcases i3 with q | q
          · exact q.2 j y (by omega) hj rfl
          · exact q.1 z
        have f11 : (s6.1 111).toInt = 0 := by
          rw [F, if_pos rfl]
          decide
        refine ⟨rfl, fun q q1 _ _ => by rw [F, if_neg q1], fun T => ?_, [], ?_, fun w => absurd f11 w, Or.inl rfl⟩
        · rw [hs6]
          exact IFj_fl (Or.inr (by decide))
        · rw [List.append_nil]
          exact RIl_f hI (by rw [F, if_neg (by decide)]) (by rw [F, if_neg (by decide)]) (fun q j _ _ _ => by rw [r6]) (fun j _ _ => by rw [r6]) (fun _ => Or.inr ⟨y, hD, hnew, by omega⟩)
      · exact ⟨rfl, fun _ _ _ _ => rfl, fun _ => IFj_rf, [], by rw [List.append_nil]; exact hI, fun w => absurd hfl w, Or.inl rfl⟩
    have nx : ∀ t0 : Int32, i < its.length → ((t0.toInt = 0 ∧ b6.toInt = 0 ∧ ∀ x, its[i]? = some x → ¬ x = y) ∨ (¬ t0.toInt = 0 ∧ y ∈ its)) → ub_250_44 (Par d) I b1 b2 b3 b4 b5 b6 b7 t0 u (fun v s' => v = none ∧ (∀ k, ¬ k = 111 → ¬ k = 112 → ¬ k = 118 → s'.1 k = u.1 k) ∧ (∀ T, IFj T u s') ∧ ∃ ws, RIl ar nT wr hw H fx Dr Bd (its ++ ws) s' ∧ (¬ (s'.1 111).toInt = 0 → y ∈ its ++ ws) ∧ (ws = [] ∨ (ws = [y] ∧ s'.1 111 = u.1 111))) := fun t0 hi h => by
      unfold ub_250_44
      intro _ x1 hx1
      rw [hI']
      refine ⟨rfl, rfl, rfl, rfl, rfl, rfl, i + 1, by omega, by omega, ?_⟩
      rcases h with ⟨q1, q2, q3⟩ | q
      · refine Or.inl ⟨q1, fun j x hj hx => ?_⟩
        by_cases ej : j = i
        · rw [ej] at hx
          exact q3 x hx
        · rcases i3 with w | w
          · exact w.2 j x (by omega) hx
          · exact absurd q2 w.1
      · exact Or.inr q
    unfold ub_250_4
    refine ⟨fun y1 => fin (fun _ => by omega), fun y1 => ⟨fun z => fin (fun w => absurd w z), fun z => ?_⟩⟩
    have hi : i < its.length := by omega
    obtain ⟨x, hx⟩ : ∃ x, its[i]? = some x := ⟨_, List.getElem?_eq_getElem hi⟩
    obtain ⟨F, w1, w2, w3, w4⟩ := n3 i x hx
    have e7 : b7.toInt.toNat = i := by omega
    rw [e7]
    have hq := RVl_eq ha hH hf w4 hv
    have no : ∀ h : ¬ ((u.2.1 279 i).toInt = b1.toInt ∧ (u.2.1 280 i).toInt = b2.toInt ∧ (u.2.1 281 i).toInt = b3.toInt ∧ F = E), ub_250_43 (Par d) I b1 b2 b3 b4 b5 b6 b7 u (fun v s' => v = none ∧ (∀ k, ¬ k = 111 → ¬ k = 112 → ¬ k = 118 → s'.1 k = u.1 k) ∧ (∀ T, IFj T u s') ∧ ∃ ws, RIl ar nT wr hw H fx Dr Bd (its ++ ws) s' ∧ (¬ (s'.1 111).toInt = 0 → y ∈ its ++ ws) ∧ (ws = [] ∨ (ws = [y] ∧ s'.1 111 = u.1 111))) := fun h => by
      unfold ub_250_43
      refine nx 0 hi (Or.inl ⟨by decide, z, fun x' hx' e => h ?_⟩)
      rw [hx] at hx'
      rw [← Option.some.inj hx'] at e
      exact hq.mp e
    refine fun _ => ⟨fun h => no (fun w => h w.1), fun h9 _ => ⟨fun h => no (fun w => h w.2.1), fun h0 _ => ⟨fun h => no (fun w => h w.2.2.1), fun h1 _ _ => ?_⟩⟩⟩
    refine Par.imp (x_187 (E := F) (E' := E) w1 h5 w3 hw') ?_
    rintro v2 s1 ⟨hs1, x3, rfl, hx3⟩
    subst hs1
    refine ⟨x3, rfl, fun h => no (fun w => ?_), fun h => nx 1 hi (Or.inr ⟨by decide, ?_⟩)⟩
    · rcases hx3 with q | q
      · omega
      · exact q.2 w.2.2.2
    · rcases hx3 with q | q
      · rw [← hq.mpr ⟨h9, h0, h1, q.2⟩]
        exact List.mem_of_getElem? hx
      · exact absurd q.1 h
end ZVS
