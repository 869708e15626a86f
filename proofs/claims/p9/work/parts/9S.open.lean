/-! ===== keepOpen, told ===== -/
theorem seg_rng {s : yS} {p l : Nat} : seg s p l = (List.range l).map (fun k => tyE s (p + k)) := seg_map (fun _ _ => rfl)
theorem s_225 {d b e p l O lo hi S P E : Nat} {a1 : Int32} {s : yS} (hT : TYN s) (hG : GC s) (hb : b < 2) (h1 : a1.toInt = (e : Int)) (he : e < 12006) (hlo : lo ≤ e) (hhi : e < hi) (h80 : (s.1 80).toInt = (p : Int)) (h81 : (s.1 81).toInt = (l : Int)) (hl : l ≤ 60) (hp : p + l ≤ 200000) (h85 : (s.1 85).toInt = (O : Int)) (hO : O + l ≤ 60000 * (b + 1)) : Tot (d + 1) 225 [.ref 213, .int a1] s (fun v s' => v = none ∧ TFr [85] b lo hi S P E O s s' ∧ (s'.1 85).toInt = (O : Int) + l ∧ (s'.2.1 271 e).toInt = (O : Int) ∧ (s'.2.1 272 e).toInt = (l : Int) ∧ sg s' O l = seg s p l ∧ s'.2.1 264 = s.2.1 264 ∧ (∀ q, q ∉ [270, 271, 272] → s'.2.1 q = s.2.1 q)) := by
  have e1 : a1.toInt.toNat = e := by omega
  refine t_225 ?_
  unfold w_225_0
  rw [e1]
  refine ⟨by omega, ?_⟩
  rintro s1 rfl
  refine ⟨by omega, ?_⟩
  rintro s2 rfl
  have e81 : (sa s 271 e (s.1 85)).1 81 = s.1 81 := rfl
  rw [e81]
  refine ⟨fun z1 z2 t => (∀ k, k ∉ [85] → t.1 k = s.1 k) ∧ (∀ q i, ¬ (q = 270 ∧ O ≤ i ∧ i < O + l) → ¬ (q = 271 ∧ i = e) → ¬ (q = 272 ∧ i = e) → t.2.1 q i = s.2.1 q i) ∧ t.2.2 = s.2.2 ∧ (t.2.1 271 e).toInt = (O : Int) ∧ (t.2.1 272 e).toInt = (l : Int) ∧ ∃ k : Nat, z2.toInt = (k : Int) ∧ k ≤ l ∧ (t.1 85).toInt = (O : Int) + k ∧ ∀ i, i < k → t.2.1 270 (O + i) = s.2.1 264 (p + i), fun _ z2 _ => (100 - z2.toInt).toNat, ⟨fun _ _ => rfl, fun q i _ w2 w3 => ?_, rfl, ?_, ?_, 0, by decide, by omega, by show (s.1 85).toInt = _; omega, fun i hi => by omega⟩, ?_⟩
  · rw [sa_2, if_neg w3, sa_2, if_neg w2]
  · rw [sa_2, if_neg (fun w => by omega), sa_2, if_pos ⟨rfl, rfl⟩]
    exact h85
  · rw [sa_2, if_pos ⟨rfl, rfl⟩]
    exact h81
  · rintro z1 z2 t ⟨t1, t2, t3, t4, t5, k, k1, k2, k3, k4⟩
    unfold w_225_14
    rw [t1 81 (by decide), t1 80 (by decide)]
    have r64 : t.2.1 264 = s.2.1 264 := funext (fun i => t2 264 i (fun w => by omega) (fun w => by omega) (fun w => by omega))
    refine ⟨fun hend => ?_, fun hmore => ⟨by omega, fun x1 hx1 => ⟨by omega, by omega, ?_⟩⟩⟩
    · have ek : k = l := by omega
      subst ek
      have hz : 60000 * (b + 1) ≤ 120000 := by omega
      refine ⟨rfl, ⟨t1, fun q i w1 _ _ _ w5 => t2 q i (fun w => w5 ⟨w.1, by omega, by omega⟩) (fun w => w1 ⟨by omega, by omega, by omega⟩) (fun w => w1 ⟨by omega, by omega, by omega⟩), t3, fun i => by rw [r64]; exact hT i, fun i => by rw [t2 265 i (fun w => by omega) (fun w => by omega) (fun w => by omega)]; exact hG i⟩, k3, t4, t5, ?_, r64, fun q hq => ?_⟩
      · rw [seg_rng]
        unfold sg
        refine List.map_congr_left (fun i hi => ?_)
        rw [k4 i (List.mem_range.mp hi), if_neg (by have := hT (p + i); omega)]
        rfl
      · simp only [List.mem_cons, List.not_mem_nil, or_false, not_or] at hq
        exact funext (fun i => t2 q i (fun w => by omega) (fun w => by omega) (fun w => by omega))
    · rintro s2 rfl
      have e85 : (sa t 270 (t.1 85).toInt.toNat (t.2.1 264 x1.toInt.toNat)).1 85 = t.1 85 := rfl
      rw [e85]
      refine ⟨by omega, ?_⟩
      rintro x3 hx3 s4 rfl
      have ei : (t.1 85).toInt.toNat = O + k := by omega
      rw [ei]
      refine ⟨by omega, fun x5 hx5 => ⟨⟨fun j hj => ?_, fun q i w1 w2 w3 => ?_, t3, ?_, ?_, k + 1, by omega, by omega, by show x3.toInt = _; omega, fun i hi => ?_⟩, by show (100 - x5.toInt).toNat < (100 - z2.toInt).toNat; omega⟩⟩
      · rw [sf_1, if_neg (fun w => hj (by rw [w]; decide))]
        exact t1 j hj
      · show (sa t 270 (O + k) (t.2.1 264 x1.toInt.toNat)).2.1 q i = _
        rw [sa_2, if_neg (fun w => w1 ⟨w.1, by omega, by omega⟩)]
        exact t2 q i w1 w2 w3
      · show ((sa t 270 (O + k) (t.2.1 264 x1.toInt.toNat)).2.1 271 e).toInt = _
        rw [sa_2, if_neg (fun w => by omega)]
        exact t4
      · show ((sa t 270 (O + k) (t.2.1 264 x1.toInt.toNat)).2.1 272 e).toInt = _
        rw [sa_2, if_neg (fun w => by omega)]
        exact t5
      · show (sa t 270 (O + k) (t.2.1 264 x1.toInt.toNat)).2.1 270 (O + i) = _
        rw [sa_2]
        by_cases w : i = k
        · rw [if_pos ⟨rfl, by omega⟩, r64, w, show x1.toInt.toNat = p + k by omega]
        · rw [if_neg (fun w' => by omega)]
          exact k4 i (by omega)
/-- told: the TYPES of a call, as the second group of an env -/
theorem s_227 {d b e hh top : Nat} {ys : List Nat} {Bs : List (List Nat)} {a1 a2 a3 : Int32} {s : yS} (hb : b < 2) (h75 : (s.1 75).toInt = (b : Int)) (h1 : a1.toInt = (e : Int)) (he : e < 300) (h2 : a2.toInt = 204 * (b : Int) + (hh : Nat)) (hh2 : hh ≤ 204) (hch : chn s a3.toInt ys) (hlen : ys.length = Bs.length) (h6 : ys.length ≤ 6) (hys : ∀ (k y : Nat), ys[k]? = some y → ∃ p l : Nat, NY s y p l ∧ Bs[k]? = some (seg s p l) ∧ isF 1 (seg s p l) ∧ p + l ≤ top) : Tot (d + 1) 227 [.ref 213, .int a1, .int a2, .int a3] s (fun v s' => v = none ∧ GF (2 * e + 1) s s' ∧ EVg s' (2 * e + 1) (2000 + 6 * hh) top Bs ∧ ∀ (k y : Nat), ys[k]? = some y → s'.2.1 267 (12 * e + 6 + k) = s.2.1 231 y) := by
  refine t_227 ?_
  unfold w_227_0
  refine ⟨by omega, fun x1 hx1 => ⟨by omega, fun x2 hx2 => ⟨by omega, fun x3 hx3 => ⟨by omega, fun x4 hx4 => ⟨by omega, fun x5 hx5 => ⟨by omega, fun x6 hx6 => ⟨by omega, ?_⟩⟩⟩⟩⟩⟩⟩
  rintro s7 rfl
  refine ⟨by omega, ?_⟩
  rintro s8 rfl
  obtain ⟨i, hi⟩ : ∃ i, i = 2 * e + 1 := ⟨_, rfl⟩
  have e2 : x2.toInt.toNat = i := by omega
  rw [e2, ← hi]
  refine ⟨fun z1 z2 z3 z4 z5 t => z4 = x2 ∧ GF i s t ∧ (t.2.1 265 i).toInt = 2000 + 6 * (hh : Int) ∧ ∃ k : Nat, k ≤ ys.length ∧ (t.2.1 266 i).toInt = (k : Int) ∧ chn s z5.toInt (ys.drop k) ∧ ∀ (j y : Nat), j < k → ys[j]? = some y → t.2.1 267 (6 * i + j) = s.2.1 231 y ∧ t.2.1 268 (6 * i + j) = s.2.1 232 y, fun _ _ _ _ _ t => (10 - (t.2.1 266 i).toInt).toNat, ⟨rfl, GF_sa (GF_sa ⟨rfl, fun _ _ _ => rfl, rfl⟩ (Or.inl ⟨Or.inl rfl, rfl⟩)) (Or.inl ⟨Or.inr rfl, rfl⟩), ?_, 0, by omega, ?_, hch, fun j y hj => by omega⟩, ?_⟩
  · rw [sa_2, if_neg (fun w => by omega), sa_2, if_pos ⟨rfl, rfl⟩]
    omega
  · rw [sa_2, if_pos ⟨rfl, rfl⟩]
    decide
  · rintro z1 z2 z3 z4 z5 t ⟨y4, tF, t65, k, k1, k2, k3, k4⟩
    have y4 := y4.symm
    subst y4
    unfold w_227_27
    rw [e2]
    refine ⟨fun hneg => ?_, fun hpos => ?_⟩
    · have ek : k = ys.length := by
        cases hdr : ys.drop k with
        | nil =>
          have := List.drop_eq_nil_iff.mp hdr
          omega
        | cons c cs =>
          rw [hdr] at k3
          have : z5.toInt = (c : Int) := k3.1
          omega
      refine ⟨rfl, tF, ⟨by omega, by omega, by omega, fun a A hA => ?_⟩, fun j y hj => ?_⟩
      · have hal : a < Bs.length := by
          by_cases q : a < Bs.length
          · exact q
          · rw [List.getElem?_eq_none (by omega)] at hA
            cases hA
        obtain ⟨y, hy⟩ : ∃ y, ys[a]? = some y := ⟨ys[a]'(by omega), List.getElem?_eq_getElem (by omega)⟩
        obtain ⟨p, l, n1, n2, n3, n4⟩ := hys a y hy
        rw [hA] at n2
        have n2 : A = seg s p l := Option.some.inj n2
        have ll : A.length = l := by rw [n2, seg_len]
        obtain ⟨w1, w2⟩ := k4 a y (by omega) hy
        rw [w1, w2]
        refine ⟨by rw [n2]; exact n3, p, n1.2.1, by rw [ll]; exact n1.2.2.1, ?_, by omega⟩
        rw [ll, GF_seg tF]
        exact n2.symm
      · have hjl : j < ys.length := by
          by_cases q : j < ys.length
          · exact q
          · rw [List.getElem?_eq_none (by omega)] at hj
            cases hj
        have := (k4 j y (by omega) hj).1
        rw [show 6 * i + j = 12 * e + 6 + j by omega] at this
        exact this
    · cases hdr : ys.drop k with
      | nil =>
        rw [hdr] at k3
        have : z5.toInt = -1 := k3
        omega
      | cons c cs =>
        rw [hdr] at k3
        have hz5 : z5.toInt = (c : Int) := k3.1
        have hck : ys[k]? = some c := by
          have := congrArg List.head? hdr
          rw [List.head?_drop] at this
          exact this
        have hkl : k < ys.length := by
          by_cases q : k < ys.length
          · exact q
          · rw [List.getElem?_eq_none (by omega)] at hck
            cases hck
        obtain ⟨p, l, n1, n2, n3, n4⟩ := hys k c hck
        have hc12 := n1.1
        have ec : z5.toInt.toNat = c := by omega
        have rN : ∀ q, q ∉ [265, 266, 267, 268] → t.2.1 q = s.2.1 q := by
          intro q hq
          simp only [List.mem_cons, List.not_mem_nil, or_false, not_or] at hq
          exact funext (fun j => tF.2.1 q j (fun w => by omega))
        rw [ec]
        refine ⟨by omega, fun y1 hy1 => ⟨by omega, by omega, fun y2 hy2 => ⟨by omega, by omega, ?_⟩⟩⟩
        rintro s3 rfl
        have ey2 : y2.toInt.toNat = 6 * i + k := by omega
        rw [ey2]
        have m66 : (sa t 267 (6 * i + k) (t.2.1 231 c)).2.1 266 i = t.2.1 266 i := by rw [sa_2, if_neg (fun w => by omega)]
        have m32 : (sa t 267 (6 * i + k) (t.2.1 231 c)).2.1 232 c = t.2.1 232 c := by rw [sa_2, if_neg (fun w => by omega)]
        rw [m66, m32]
        refine ⟨by omega, fun y4 hy4 => ⟨by omega, by omega, fun y5 hy5 => ⟨by omega, by omega, ?_⟩⟩⟩
        rintro s6 rfl
        have ey5 : y5.toInt.toNat = 6 * i + k := by omega
        rw [ey5]
        have m66' : (sa (sa t 267 (6 * i + k) (t.2.1 231 c)) 268 (6 * i + k) (t.2.1 232 c)).2.1 266 i = t.2.1 266 i := by rw [sa_2, if_neg (fun w => by omega), m66]
        rw [m66']
        refine ⟨by omega, by omega, fun y7 hy7 => ⟨by omega, ?_⟩⟩
        rintro s8 rfl
        have F8 : GF i s (sa (sa (sa t 267 (6 * i + k) (t.2.1 231 c)) 268 (6 * i + k) (t.2.1 232 c)) 266 i y7) := GF_sa (GF_sa (GF_sa tF (Or.inr ⟨Or.inl rfl, by omega, by omega⟩)) (Or.inr ⟨Or.inr rfl, by omega, by omega⟩)) (Or.inl ⟨Or.inr rfl, rfl⟩)
        have m25 : (sa (sa (sa t 267 (6 * i + k) (t.2.1 231 c)) 268 (6 * i + k) (t.2.1 232 c)) 266 i y7).2.1 225 c = s.2.1 225 c := F8.2.1 225 c (fun w => by omega)
        have n66 : (sa (sa (sa t 267 (6 * i + k) (t.2.1 231 c)) 268 (6 * i + k) (t.2.1 232 c)) 266 i y7).2.1 266 i = y7 := by rw [sa_2, if_pos ⟨rfl, rfl⟩]
        rw [m25]
        refine ⟨by omega, ⟨rfl, F8, ?_, k + 1, by omega, by rw [n66]; omega, ?_, fun j y hj hy => ?_⟩, ?_⟩
        · rw [sa_2, if_neg (fun w => by omega), sa_2, if_neg (fun w => by omega), sa_2, if_neg (fun w => by omega)]
          exact t65
        · rw [drop_get hck] at hdr
          have := (List.cons.inj hdr).2
          rw [this]
          exact k3.2
        · by_cases w : j = k
          · rw [w, hck] at hy
            have hy : c = y := Option.some.inj hy
            subst hy
            rw [w]
            refine ⟨?_, ?_⟩
            · rw [sa_2, if_neg (fun w => by omega), sa_2, if_neg (fun w => by omega), sa_2, if_pos ⟨rfl, rfl⟩, rN 231 (by decide)]
            · rw [sa_2, if_neg (fun w => by omega), sa_2, if_pos ⟨rfl, rfl⟩, rN 232 (by decide)]
          · obtain ⟨w1, w2⟩ := k4 j y (by omega) hy
            refine ⟨?_, ?_⟩
            · rw [sa_2, if_neg (fun w => by omega), sa_2, if_neg (fun w => by omega), sa_2, if_neg (fun w => by omega)]
              exact w1
            · rw [sa_2, if_neg (fun w => by omega), sa_2, if_neg (fun w => by omega), sa_2, if_neg (fun w => by omega)]
              exact w2
        · show (10 - ((sa (sa (sa t 267 (6 * i + k) (t.2.1 231 c)) 268 (6 * i + k) (t.2.1 232 c)) 266 i y7).2.1 266 i).toInt).toNat < (10 - (t.2.1 266 i).toInt).toNat
          rw [n66]
          omega
