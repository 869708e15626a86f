theorem subs_len1 {σ : Nat → Option (List Nat)} (h : ∀ c A, σ c = some A → A.length = 1) : ∀ L, (subs σ L).length = L.length
  | [] => rfl
  | x :: L => by
    rw [subs_cons, List.length_append, subs_len1 h L, List.length_cons]
    have : (sub σ x).length = 1 := by
      unfold sub
      split
      · rename_i A hA
        exact h _ A hA
      · rfl
    omega
theorem prm_get {f m a : Nat} {A : List Nat} (h : (prm f m)[a]? = some A) : a < m ∧ A = [8 * (4000 + 6 * f + a)] := by
  unfold prm at h
  by_cases q : a < m
  · rw [List.getElem?_map, List.getElem?_range q] at h
    exact ⟨q, by simpa using h.symm⟩
  · rw [List.getElem?_eq_none (by rw [List.length_map, List.length_range]; omega)] at h
    cases h
theorem prm_len {f m : Nat} : (prm f m).length = m := by unfold prm; rw [List.length_map, List.length_range]
theorem env_prm1 {f m b0 b1 : Nat} : ∀ c A, envS b0 (prm f m) b1 [] c = some A → A.length = 1 := by
  intro c A h
  unfold envS grp at h
  split at h
  · cases h
  · split at h
    · rename_i B hB
      split at hB
      · have := prm_get hB
        have e : B = A := by simpa using h
        rw [← e, this.2]
        rfl
      · cases hB
    · split at h <;> simp at h
theorem s_194b {e b n N T F H P E code : Nat} {own : Nat → Nat × Nat} {a1 : Int32} {s : yS} (hS : ST b n own N T F H s) (hD : RSD b T s) (hT : TYN s) (hG : GC s) (h75 : (s.1 75).toInt = (b : Int)) (hP : (s.1 64).toInt = (P : Int)) (hP1 : 13000 ≤ P) (hP2 : P ≤ 199800) (hE : (s.1 70).toInt = (E : Int)) (hE2 : E ≤ 290) (h1 : a1.toInt = (code : Int)) (hc : 4000 ≤ code) (hso : ∀ f, f < F → 0 ≤ (s.2.1 261 (60 * b + f)).toInt) (hpc : PC (pg s b H) H code) : Tot (e + 3) 194 [.ref 213, .int a1] s (fun v s' => v = none ∧ BF P E s s' ∧ ∃ N Q : Nat, P ≤ Q ∧ Q ≤ P + 6 ∧ N ≤ 60 ∧ (s'.1 71).toInt = (Q : Int) ∧ (s'.1 72).toInt = (N : Int) ∧ (s'.1 64).toInt = (Q : Int) + N ∧ ∃ b1, seg s' Q N = bdT (pg s b H) b1 code) := by
  obtain ⟨hb, hn, hT24, hF60, hH, r33, r52, hA⟩ := id hS
  obtain ⟨G, hGG⟩ : ∃ G, G = pg s b H := ⟨_, rfl⟩
  have n33 : nT s 233 b = T := by unfold nT; omega
  have n52 : nT s 252 b = F := by unfold nT; omega
  have gT_e : gT G = T := by rw [hGG]; exact n33
  have gF_e : gF G = F := by rw [hGG]; exact n52
  have gfm_e : ∀ d, d < T → gfm G d = (s.2.1 236 (24 * b + d)).toInt.toNat := fun d hd => by rw [hGG]; show pgT s b 236 d = _; unfold pgT; rw [n33, if_pos hd]; rfl
  have gfb_e : ∀ d k, d < T → k < gfm G d → gfb G d k = tyS s 238 (6 * (24 * b + d) + k) := fun d k hd hk => by
    have hk' : k < pgT s b 236 d := by rw [hGG] at hk; exact hk
    rw [hGG]; show (if k < pgT s b 236 d then _ else _) = _; rw [if_pos hk']
  have gso_e : ∀ f, f < F → (s.2.1 261 (60 * b + f)).toInt = (gso G f : Int) := by
    intro f hf
    have := hso f hf
    have e : gso G f = (s.2.1 261 (60 * b + f)).toInt.toNat := by rw [hGG]; show (if f < nT s 252 b then _ else _) = _; rw [n52, if_pos hf]; rfl
    omega
  rw [← hGG] at hpc ⊢
  obtain ⟨c1, c2, c3, c4, c5⟩ := (hpc.resolve_left (fun w => by omega)).resolve_left (fun w => by omega)
  clear hpc
  obtain ⟨f, hf⟩ : ∃ f, f = (code - 4000) / 6 := ⟨_, rfl⟩
  obtain ⟨k0, hk0⟩ : ∃ k0, k0 = (code - 4000) % 6 := ⟨_, rfl⟩
  rw [← hf] at c3 c4 c5
  rw [← hk0] at c5
  rw [gF_e] at c3
  rw [gT_e] at c4
  have so_e := gso_e f c3
  obtain ⟨D, hDD⟩ : ∃ D, D = gso G f := ⟨_, rfl⟩
  rw [← hDD] at c4 c5 so_e
  have fm_e := gfm_e D c4
  obtain ⟨d1, d2, d3, d4, d5, -⟩ := hA.1 D c4
  obtain ⟨m, hm⟩ : ∃ m, m = gfm G D := ⟨_, rfl⟩
  have hm6 : m ≤ 6 := by omega
  have hmI : (s.2.1 236 (24 * b + D)).toInt = (m : Int) := by omega
  refine t_194 ?_
  unfold w_194_0
  refine Tot.imp (Tot.mono (by omega) (s_188 (d := 0) (E := E) hE (by omega))) ?_
  rintro v s1 ⟨rfl, y1, hy1, es1⟩
  refine ⟨_, rfl, fun q => absurd q (by omega), fun _ => ?_⟩
  have r1 : ∀ q, ¬ q = 266 → s1.2.1 q = s.2.1 q := by
    intro q hq
    funext i
    rw [es1]
    show (sa (sa s 266 (2 * E) 0) 266 (2 * E + 1) 0).2.1 q i = _
    rw [sa_2, if_neg (fun w => hq w.1), sa_2, if_neg (fun w => hq w.1)]
  have r1' : ∀ i, i < 2 * E → s1.2.1 266 i = s.2.1 266 i := by
    intro i hi
    rw [es1]
    show (sa (sa s 266 (2 * E) 0) 266 (2 * E + 1) 0).2.1 266 i = _
    rw [sa_2, if_neg (fun w => by omega), sa_2, if_neg (fun w => by omega)]
  have r01 : s1.2.1 266 (2 * E + 1) = 0 := by
    rw [es1]
    show (sa (sa s 266 (2 * E) 0) 266 (2 * E + 1) 0).2.1 266 (2 * E + 1) = _
    rw [sa_2, if_pos ⟨rfl, rfl⟩]
  have f1 : ∀ k, ¬ k = 70 → s1.1 k = s.1 k := fun k hk => by rw [es1, sf_1, if_neg hk]; rfl
  have f70 : (s1.1 70).toInt = (E : Int) + 1 := by rw [es1]; exact hy1
  have l22 : s1.2.2 = s.2.2 := by rw [es1]; rfl
  rw [f1 75 (by decide), r1 261 (by decide)]
  refine ⟨by omega, fun x10 hx10 => ⟨by omega, fun x11 hx11 => ⟨by omega, fun x12 hx12 => ⟨by omega, fun x13 hx13 => ⟨by omega, fun x14 hx14 => ?_⟩⟩⟩⟩⟩
  have e14 : x14.toInt.toNat = 60 * b + f := by omega
  rw [e14, so_e]
  refine ⟨by omega, by omega, fun x15 hx15 => ⟨by omega, fun x16 hx16 => ⟨by omega, fun x17 hx17 => ⟨by omega, fun x18 hx18 => ?_⟩⟩⟩⟩
  have e18 : x18.toInt.toNat = 60 * b + f := by omega
  rw [e18, so_e]
  refine ⟨by omega, by omega, fun x19 hx19 => ⟨by omega, fun x20 hx20 => ⟨by omega, ?_⟩⟩⟩
  rintro s21 rfl
  refine ⟨by omega, by omega, ?_⟩
  rintro s22 rfl
  have e16 : x16.toInt.toNat = 2 * E := by omega
  have e15 : x15.toInt.toNat = 24 * b + D := by omega
  have v236 : (sa s1 265 (2 * E) x20).2.1 236 (24 * b + D) = s.2.1 236 (24 * b + D) := by
    rw [sa_2, if_neg (fun w => by omega), r1 236 (by decide)]
  rw [e16, e15, v236]
  obtain ⟨u, hu⟩ : ∃ u, u = sa (sa s1 265 (2 * E) x20) 266 (2 * E) (s.2.1 236 (24 * b + D)) := ⟨_, rfl⟩
  rw [← hu]
  have u1 : u.1 = s1.1 := by rw [hu]; rfl
  have ur : ∀ q i, ¬ (q = 265 ∧ i = 2 * E) → ¬ (q = 266 ∧ i = 2 * E) → u.2.1 q i = s1.2.1 q i := by
    intro q i w1 w2
    rw [hu, sa_2, if_neg w2, sa_2, if_neg w1]
  have u65 : u.2.1 265 (2 * E) = x20 := by rw [hu, sa_2, if_neg (fun w => by omega), sa_2, if_pos ⟨rfl, rfl⟩]
  have u66 : (u.2.1 266 (2 * E)).toInt = (m : Int) := by rw [hu, sa_2, if_pos ⟨rfl, rfl⟩]; exact hmI
  have u22 : u.2.2 = s1.2.2 := by rw [hu]; rfl
  clear hu
  refine ⟨fun z1 z2 z4 z5 z6 z7 t => z1 = a1 ∧ z2 = s.1 70 ∧ z4 = x11 ∧ z5 = x15 ∧ z6 = x16 ∧ (∀ k, ¬ k = 64 → t.1 k = u.1 k) ∧ t.2.2 = u.2.2 ∧ ∃ k : Nat, z7.toInt = (k : Int) ∧ k ≤ m ∧ (t.1 64).toInt = (P : Int) + k ∧ (∀ j, j < k → (t.2.1 264 (P + j)).toInt = 8 * (4000 + 6 * (f : Int) + j) ∧ (t.2.1 267 (12 * E + j)).toInt = (P : Int) + j ∧ (t.2.1 268 (12 * E + j)).toInt = 1) ∧ (∀ q i, ¬ (q = 264 ∧ P ≤ i ∧ i < P + k) → ¬ ((q = 267 ∨ q = 268) ∧ 12 * E ≤ i) → t.2.1 q i = u.2.1 q i), fun _ _ _ _ _ z7 _ => (100 - z7.toInt).toNat, ⟨rfl, rfl, rfl, rfl, rfl, fun _ _ => rfl, rfl, 0, by decide, by omega, by rw [u1, f1 64 (by decide), hP]; rfl, fun j hj => absurd hj (by omega), fun _ _ _ _ => rfl⟩, ?_⟩
  rintro z1 z2 z4 z5 z6 z7 t ⟨w1, w2, w4, w5, w6, tf, t22, k, k1, k2, k3, k4, k5⟩
  have w1 := w1.symm
  have w2 := w2.symm
  have w4 := w4.symm
  have w5 := w5.symm
  have w6 := w6.symm
  subst w1 w2 w4 w5 w6
  have t236 : t.2.1 236 (24 * b + D) = s.2.1 236 (24 * b + D) := by
    rw [k5 236 _ (fun w => by omega) (fun w => by omega), ur 236 _ (fun w => by omega) (fun w => by omega), r1 236 (by decide)]
  unfold w_194_58
  rw [e15, t236, hmI]
  refine ⟨by omega, fun hend => ⟨by omega, fun x1 hx1 => ⟨by omega, fun x2 hx2 => ⟨by omega, fun x3 hx3 => ⟨by omega, fun x4 hx4 => ⟨by omega, ?_⟩⟩⟩⟩⟩, fun hmore => ?_⟩
  · have km : k = m := by omega
    have ex4 : x4.toInt.toNat = 6 * (24 * b + D) + k0 := by omega
    rw [ex4]
    have hTt : TYN t := by
      intro i
      by_cases w : P ≤ i ∧ i < P + k
      · have := (k4 (i - P) (by omega)).1
        rw [show P + (i - P) = i by omega] at this
        rw [this]
        omega
      · rw [k5 264 i (fun q => w q.2) (fun q => by omega), ur 264 i (fun q => by omega) (fun q => by omega), r1 264 (by decide)]
        exact hT i
    have hGt : GC t := by
      intro i
      rw [k5 265 i (fun q => by omega) (fun q => by omega)]
      by_cases w : i = 2 * E
      · rw [w, u65]; omega
      · rw [ur 265 i (fun q => w q.2) (fun q => by omega), r1 265 (by decide)]
        exact hG i
    have rt : ∀ q i, q ∉ [264, 265, 266, 267, 268] → t.2.1 q i = s.2.1 q i := by
      intro q i hq
      have q1 : ¬ q = 264 := fun w => hq (by rw [w]; decide)
      have q2 : ¬ q = 265 := fun w => hq (by rw [w]; decide)
      have q3 : ¬ q = 266 := fun w => hq (by rw [w]; decide)
      have q4 : ¬ q = 267 := fun w => hq (by rw [w]; decide)
      have q5 : ¬ q = 268 := fun w => hq (by rw [w]; decide)
      rw [k5 q i (fun w => q1 w.1) (fun w => by omega), ur q i (fun w => q2 w.1) (fun w => q3 w.1), r1 q q3]
    obtain ⟨y, p, l, s1', s2'⟩ := hD D c4 k0 (by omega)
    have sNY : NY t y p l := by
      unfold NY
      rw [rt 231 y (by decide), rt 232 y (by decide)]
      exact s2'
    have sgt : seg t p l = seg s p l := seg_eq (fun j _ h2 => by
      have := s2'.2.2.2
      rw [k5 264 j (fun w => by omega) (fun w => by omega), ur 264 j (fun w => by omega) (fun w => by omega), r1 264 (by decide)])
    have V : EV t E (P + m) (1000 + 6 * D) (prm f m) (t.2.1 265 (2 * E + 1)).toInt.toNat [] := by
      have g1 := hGt (2 * E + 1)
      refine ⟨⟨?_, ?_, by rw [prm_len]; exact hm6, fun a A hA => ?_⟩, ⟨by omega, ?_, by decide, fun a A hA => by simp at hA⟩⟩
      · rw [k5 265 _ (fun w => by omega) (fun w => by omega), u65]
        omega
      · rw [k5 266 _ (fun w => by omega) (fun w => by omega), prm_len]
        exact u66
      · obtain ⟨a1', rfl⟩ := prm_get hA
        obtain ⟨j1, j2, j3⟩ := k4 a (by omega)
        refine ⟨⟨by decide, by show 1 - 1 + 8 * (4000 + 6 * f + a) % 8 = 0; omega⟩, P + a, ?_, ?_, ?_, by show P + a + 1 ≤ P + m; omega⟩
        · rw [show 6 * (2 * E) + a = 12 * E + a by omega, j2]
          omega
        · rw [show 6 * (2 * E) + a = 12 * E + a by omega, j3]
          rfl
        · show [tyE t (P + a)] = _
          unfold tyE
          rw [j1]
          congr 1
      · rw [k5 266 _ (fun w => by omega) (fun w => by omega), ur 266 _ (fun w => by omega) (fun w => by omega), r01]
        decide
    have f64 : (t.1 64).toInt = ((P + m : Nat) : Int) := by omega
    have := b147 (d := e) (P := P) (Q := P + m) (a1 := a1) (s := s) hTt hGt f64 ⟨by omega, by omega⟩ ⟨hP1, hP2⟩ (by rw [tf 70 (by decide), u1]; exact f70) hE2 hE hE (y := y) (a3 := t.2.1 238 (6 * (24 * b + D) + k0)) (by rw [rt 238 _ (by decide)]; exact s1') sNY V (by rw [subs_len1 env_prm1, seg_len]; exact s2'.2.2.2.2) (fun k hk => by rw [tf k (fun w => hk (by rw [w]; decide)), u1, f1 k (fun w => hk (by rw [w]; decide))]) (fun q i w1 w2 w3 => ?_) (by rw [t22, u22, l22])
    · rw [sgt, ← SY_ty s1' s2', ← gfb_e D k0 c4 c5] at this
      obtain ⟨w1, w2, w3⟩ := this
      refine ⟨w1, w2, Tot.imp w3 ?_⟩
      rintro v s' ⟨x, rfl, m1, m2⟩
      refine ⟨x, rfl, m1, fun x4 hx4 s5 hs5 => ?_⟩
      obtain ⟨n1, n2, N, Q, n3, n4, n5, n6, n7, n8, n9⟩ := m2 x4 hx4 s5 hs5
      refine ⟨n1, n2, N, Q, n3, n4, n5, n6, n7, n8, (t.2.1 265 (2 * E + 1)).toInt.toNat, ?_⟩
      unfold bdT
      rw [if_neg (by omega), if_neg (by omega), ← hf, ← hk0, ← hDD, ← hm]
      exact n9
    · rw [k5 q i (fun w => w1 ⟨w.1, w.2.1⟩) w3, ur q i (fun w => w2 ⟨Or.inl w.1, by omega⟩) (fun w => w2 ⟨Or.inr w.1, by omega⟩)]
      by_cases w : q = 266
      · rw [w]; exact r1' i (by omega)
      · rw [r1 q w]
  · refine ⟨by omega, fun x5 hx5 => ⟨by omega, fun x6 hx6 => ⟨by omega, fun x7 hx7 => ⟨by omega, fun x8 hx8 => ⟨by omega, ?_⟩⟩⟩⟩⟩
    rintro s9 rfl
    refine ⟨by omega, fun x10' hx10' => ⟨by omega, fun x11' hx11' => ⟨by omega, ?_⟩⟩⟩
    rintro s12 rfl
    refine ⟨by omega, fun x13' hx13' => ⟨by omega, fun x14' hx14' => ⟨by omega, ?_⟩⟩⟩
    rintro s15 rfl
    have e64 : (t.1 64).toInt.toNat = P + k := by omega
    have e11 : x11'.toInt.toNat = 12 * E + k := by omega
    have e14' : x14'.toInt.toNat = 12 * E + k := by omega
    rw [e64, e11, e14']
    have p64 : (sa (sa (sa t 264 (P + k) x8) 267 (12 * E + k) ((sa t 264 (P + k) x8).1 64)) 268 (12 * E + k) 1).1 64 = t.1 64 := rfl
    rw [p64]
    refine ⟨by omega, ?_⟩
    rintro x16' hx16' s17 rfl
    refine ⟨by omega, fun x18' hx18' => ⟨⟨rfl, rfl, rfl, rfl, rfl, fun j hj => ?_, t22, k + 1, by omega, by omega, ?_, fun j hj => ?_, fun q i v1 v2 => ?_⟩, by show (100 - x18'.toInt).toNat < (100 - z7.toInt).toNat; omega⟩⟩
    · rw [sf_1, if_neg hj]
      exact tf j hj
    · show x16'.toInt = _
      omega
    · by_cases hjk : j = k
      · subst hjk
        refine ⟨?_, ?_, ?_⟩
        · show ((sa (sa (sa t 264 (P + j) x8) 267 (12 * E + j) _) 268 (12 * E + j) 1).2.1 264 (P + j)).toInt = _
          rw [sa_2, if_neg (fun w => by omega), sa_2, if_neg (fun w => by omega), sa_2, if_pos ⟨rfl, rfl⟩]
          omega
        · show ((sa (sa (sa t 264 (P + j) x8) 267 (12 * E + j) (t.1 64)) 268 (12 * E + j) 1).2.1 267 (12 * E + j)).toInt = _
          rw [sa_2, if_neg (fun w => by omega), sa_2, if_pos ⟨rfl, rfl⟩]
          exact k3
        · show ((sa (sa (sa t 264 (P + j) x8) 267 (12 * E + j) (t.1 64)) 268 (12 * E + j) 1).2.1 268 (12 * E + j)).toInt = _
          rw [sa_2, if_pos ⟨rfl, rfl⟩]
          decide
      · obtain ⟨j1, j2, j3⟩ := k4 j (by omega)
        refine ⟨?_, ?_, ?_⟩
        · show ((sa (sa (sa t 264 (P + k) x8) 267 (12 * E + k) (t.1 64)) 268 (12 * E + k) 1).2.1 264 (P + j)).toInt = _
          rw [sa_2, if_neg (fun w => by omega), sa_2, if_neg (fun w => by omega), sa_2, if_neg (fun w => by omega)]
          exact j1
        · show ((sa (sa (sa t 264 (P + k) x8) 267 (12 * E + k) (t.1 64)) 268 (12 * E + k) 1).2.1 267 (12 * E + j)).toInt = _
          rw [sa_2, if_neg (fun w => by omega), sa_2, if_neg (fun w => by omega), sa_2, if_neg (fun w => by omega)]
          exact j2
        · show ((sa (sa (sa t 264 (P + k) x8) 267 (12 * E + k) (t.1 64)) 268 (12 * E + k) 1).2.1 268 (12 * E + j)).toInt = _
          rw [sa_2, if_neg (fun w => by omega), sa_2, if_neg (fun w => by omega), sa_2, if_neg (fun w => by omega)]
          exact j3
    · show (sa (sa (sa t 264 (P + k) x8) 267 (12 * E + k) (t.1 64)) 268 (12 * E + k) 1).2.1 q i = _
      rw [sa_2, if_neg (fun w => v2 ⟨Or.inr w.1, by omega⟩), sa_2, if_neg (fun w => v2 ⟨Or.inl w.1, by omega⟩), sa_2, if_neg (fun w => v1 ⟨w.1, by omega, by omega⟩)]
      exact k5 q i (fun w => v1 ⟨w.1, w.2.1, by omega⟩) v2
