/-! ===== bound ===== -/
theorem subs_none {σ : Nat → Option (List Nat)} (h : ∀ c, σ c = none) : ∀ L, subs σ L = L
  | [] => rfl
  | x :: L => by
    rw [subs_cons, subs_none h L]
    unfold sub
    rw [h]
    rfl
theorem envS_nil {b0 b1 c : Nat} : envS b0 [] b1 [] c = none := by
  unfold envS grp
  split
  · rfl
  · split
    · rename_i q
      split at q <;> simp at q
    · split <;> simp
/-- a func's own params, for its struct's formals -/
def prm (f m : Nat) : List (List Nat) := (List.range m).map (fun k => [8 * (4000 + 6 * f + k)])
/-- the bound of a param -/
def bdT (G : PG) (b1 code : Nat) : List Nat := if code < 2000 then gfb G ((code - 1000) / 6) ((code - 1000) % 6) else if code < 4000 then ghb G ((code - 2000) / 6) ((code - 2000) % 6) else subs (envS (1000 + 6 * gso G ((code - 4000) / 6)) (prm ((code - 4000) / 6) (gfm G (gso G ((code - 4000) / 6)))) b1 []) (gfb G (gso G ((code - 4000) / 6)) ((code - 4000) % 6))
/-- what bound changes -/
def BF (P E : Nat) (s s' : yS) : Prop := (∀ k, k ∉ [64, 71, 72] → s'.1 k = s.1 k) ∧ (∀ q i, ¬ (q = 264 ∧ P ≤ i) → ¬ ((q = 265 ∨ q = 266) ∧ 2 * E ≤ i) → ¬ ((q = 267 ∨ q = 268) ∧ 12 * E ≤ i) → s'.2.1 q i = s.2.1 q i) ∧ s'.2.2 = s.2.2 ∧ TYN s' ∧ GC s'
/-- put for a bound, and the env's end -/
theorem b147 {d P Q E y p l b0 b1 : Nat} {As : List (List Nat)} {a1 a2 a3 : Int32} {s u : yS} (hT : TYN u) (hG : GC u) (hQ : (u.1 64).toInt = (Q : Int)) (hPQ : P ≤ Q ∧ Q ≤ P + 6) (hP : 13000 ≤ P ∧ P ≤ 199800) (hE : (u.1 70).toInt = (E : Int) + 1) (hE2 : E ≤ 290) (hs70 : (s.1 70).toInt = (E : Int)) (h2 : a2.toInt = (E : Int)) (h3 : a3.toInt = (y : Int)) (hy : NY u y p l) (hV : EV u E Q b0 As b1 []) (hlen : (subs (envS b0 As b1 []) (seg u p l)).length ≤ 60) (hf : ∀ k, k ∉ [64, 70, 71, 72] → u.1 k = s.1 k) (hr : ∀ q i, ¬ (q = 264 ∧ P ≤ i) → ¬ ((q = 265 ∨ q = 266) ∧ 2 * E ≤ i) → ¬ ((q = 267 ∨ q = 268) ∧ 12 * E ≤ i) → u.2.1 q i = s.2.1 q i) (hl2 : u.2.2 = s.2.2) : w_194_147 (Tot (d + 2)) a1 a2 a3 u (fun v s' => v = none ∧ BF P E s s' ∧ ∃ N Q : Nat, P ≤ Q ∧ Q ≤ P + 6 ∧ N ≤ 60 ∧ (s'.1 71).toInt = (Q : Int) ∧ (s'.1 72).toInt = (N : Int) ∧ (s'.1 64).toInt = (Q : Int) + N ∧ seg s' Q N = subs (envS b0 As b1 []) (seg u p l)) := by
  obtain ⟨y1, y2, y3, y4, y5⟩ := hy
  have e3 : a3.toInt.toNat = y := by omega
  unfold w_194_147
  rw [e3]
  refine ⟨by omega, by omega, ?_⟩
  refine Tot.imp (s_191 (d := d) (e := E) (p := p) (l := l) (P := Q) hT hG hQ hV (by omega) y2 y3 h2 (by omega) (by omega)) ?_
  rintro v s1 ⟨x3, rfl, F1, k1, r1⟩
  obtain ⟨-, N, n1, n2, n3, n4, n5, n6⟩ := r1.resolve_left (fun w => by omega)
  have e70 : s1.1 70 = u.1 70 := k1 70 (by decide)
  refine ⟨x3, rfl, by rw [e70]; omega, ?_⟩
  rintro x4 hx4 s5 rfl
  rw [e70] at hx4
  refine ⟨rfl, ⟨fun k hk => ?_, fun q i w1 w2 w3 => ?_, F1.2.1.trans hl2, F1.2.2, fun i => ?_⟩, N, Q, hPQ.1, hPQ.2, n2, ?_, n4, n5, ?_⟩
  · rw [sf_1]
    split
    · rename_i w
      rw [w]
      exact Int32.toInt_inj.mp (by omega)
    · rename_i w
      rw [k1 k hk]
      exact hf k (fun m => by
        rcases List.mem_cons.mp m with m | m
        · exact hk (by rw [m]; decide)
        · rcases List.mem_cons.mp m with m | m
          · exact w m
          · exact hk (List.mem_cons_of_mem _ m))
  · show s1.2.1 q i = _
    rw [F1.1 q i (fun w => w1 ⟨w.1, by omega⟩)]
    exact hr q i w1 w2 w3
  · show 0 ≤ (s1.2.1 265 i).toInt ∧ (s1.2.1 265 i).toInt ≤ 10000
    rw [F1.1 265 i (fun w => by omega)]
    exact hG i
  · show (s1.1 71).toInt = _
    rw [n3]
    exact hQ
  · rw [← n6]
    exact seg_eq (fun _ _ _ => rfl)
/-- bounds of formals are resolved -/
def RSD (b T : Nat) (s : yS) : Prop := ∀ d, d < T → ∀ k : Nat, (k : Int) < (s.2.1 236 (24 * b + d)).toInt → SY s 238 (6 * (24 * b + d) + k)
/-- a param that is told -/
def PC (G : PG) (H code : Nat) : Prop := (1000 ≤ code ∧ code < 2000 ∧ (code - 1000) / 6 < gT G ∧ (code - 1000) % 6 < gfm G ((code - 1000) / 6)) ∨ (2000 ≤ code ∧ code < 4000 ∧ (code - 2000) / 6 < H ∧ (code - 2000) % 6 < ghn G ((code - 2000) / 6)) ∨ (4000 ≤ code ∧ code < 5000 ∧ (code - 4000) / 6 < gF G ∧ gso G ((code - 4000) / 6) < gT G ∧ (code - 4000) % 6 < gfm G (gso G ((code - 4000) / 6)))
theorem s_194a {e b n N T F H P E code : Nat} {own : Nat → Nat × Nat} {a1 : Int32} {s : yS} (hS : ST b n own N T F H s) (hR : RSH b H s) (hD : RSD b T s) (hT : TYN s) (hG : GC s) (h75 : (s.1 75).toInt = (b : Int)) (hP : (s.1 64).toInt = (P : Int)) (hP1 : 13000 ≤ P) (hP2 : P ≤ 199800) (hE : (s.1 70).toInt = (E : Int)) (hE2 : E ≤ 290) (h1 : a1.toInt = (code : Int)) (hc : code < 4000) (hpc : PC (pg s b H) H code) : Tot (e + 3) 194 [.ref 213, .int a1] s (fun v s' => v = none ∧ BF P E s s' ∧ ∃ N Q : Nat, P ≤ Q ∧ Q ≤ P + 6 ∧ N ≤ 60 ∧ (s'.1 71).toInt = (Q : Int) ∧ (s'.1 72).toInt = (N : Int) ∧ (s'.1 64).toInt = (Q : Int) + N ∧ ∃ b1, seg s' Q N = bdT (pg s b H) b1 code) := by
  obtain ⟨hb, hn, hT24, hF60, hH, r33, r52, hA⟩ := id hS
  obtain ⟨G, hGG⟩ : ∃ G, G = pg s b H := ⟨_, rfl⟩
  have n33 : nT s 233 b = T := by unfold nT; omega
  have gT_e : gT G = T := by rw [hGG]; exact n33
  have gfm_e : ∀ d, d < T → gfm G d = (s.2.1 236 (24 * b + d)).toInt.toNat := fun d hd => by rw [hGG]; show pgT s b 236 d = _; unfold pgT; rw [n33, if_pos hd]; rfl
  have gfb_e : ∀ d k, d < T → k < gfm G d → gfb G d k = tyS s 238 (6 * (24 * b + d) + k) := fun d k hd hk => by
    have hk' : k < pgT s b 236 d := by rw [hGG] at hk; exact hk
    rw [hGG]; show (if k < pgT s b 236 d then _ else _) = _; rw [if_pos hk']
  have ghn_e : ∀ k, k < H → ghn G k = (s.2.1 245 (204 * b + k)).toInt.toNat := fun k hk => by rw [hGG]; show (if k < H then _ else _) = _; rw [if_pos hk]; rfl
  have ghb_e : ∀ k j, k < H → j < ghn G k → ghb G k j = tyS s 247 (6 * (204 * b + k) + j) := fun k j hk hj => by
    have hj' : j < nT s 245 (204 * b + k) := by rw [ghn_e k hk] at hj; exact hj
    rw [hGG]; show (if k < H ∧ j < _ then _ else _) = _; rw [if_pos ⟨hk, hj'⟩]
  rw [← hGG] at hpc ⊢
  refine t_194 ?_
  unfold w_194_0
  refine Tot.imp (Tot.mono (by omega) (s_188 (d := 0) (E := E) hE (by omega))) ?_
  rintro v s1 ⟨rfl, y1, hy1, es1⟩
  refine ⟨_, rfl, fun _ => ?_, fun q => absurd q (by omega)⟩
  have r1 : ∀ q, ¬ q = 266 → s1.2.1 q = s.2.1 q := by
    intro q hq
    funext i
    rw [es1]
    show (sa (sa s 266 (2 * E) 0) 266 (2 * E + 1) 0).2.1 q i = _
    rw [sa_2, if_neg (fun w => hq w.1), sa_2, if_neg (fun w => hq w.1)]
  have r1' : ∀ i, i < 2 * E → s1.2.1 266 i = s.2.1 266 i := by
    intro i hi
    rw [es1]
    show (sa (sa s 266 (2 * E) 0) 266 (2 * E + 1) 0).2.1 266 i = _
    rw [sa_2, if_neg (fun w => by omega), sa_2, if_neg (fun w => by omega)]
  have r0 : ∀ g, g < 2 → s1.2.1 266 (2 * E + g) = 0 := by
    intro g hg
    rw [es1]
    show (sa (sa s 266 (2 * E) 0) 266 (2 * E + 1) 0).2.1 266 (2 * E + g) = _
    rw [sa_2]
    split
    · rfl
    · rw [sa_2, if_pos ⟨rfl, by omega⟩]
  have f1 : ∀ k, ¬ k = 70 → s1.1 k = s.1 k := fun k hk => by rw [es1, sf_1, if_neg hk]; rfl
  have f70 : (s1.1 70).toInt = (E : Int) + 1 := by rw [es1]; exact hy1
  have T1 : TYN s1 := fun i => by rw [r1 264 (by decide)]; exact hT i
  have G1 : GC s1 := fun i => by rw [r1 265 (by decide)]; exact hG i
  have sg1 : ∀ p l, seg s1 p l = seg s p l := fun p l => seg_eq (fun i _ _ => by rw [r1 264 (by decide)])
  have V1 : EV s1 E P (s1.2.1 265 (2 * E)).toInt.toNat [] (s1.2.1 265 (2 * E + 1)).toInt.toNat [] := by
    have g0 := G1 (2 * E)
    have g1 := G1 (2 * E + 1)
    refine ⟨⟨by omega, ?_, by decide, fun a A hA => by simp at hA⟩, ⟨by omega, ?_, by decide, fun a A hA => by simp at hA⟩⟩
    · rw [show 2 * E = 2 * E + 0 by omega, r0 0 (by decide)]
      decide
    · rw [r0 1 (by decide)]
      decide
  have rr : ∀ q i, ¬ (q = 264 ∧ P ≤ i) → ¬ ((q = 265 ∨ q = 266) ∧ 2 * E ≤ i) → ¬ ((q = 267 ∨ q = 268) ∧ 12 * E ≤ i) → s1.2.1 q i = s.2.1 q i := by
    intro q i w1 w2 w3
    by_cases w : q = 266
    · rw [w]; exact r1' i (by omega)
    · rw [r1 q w]
  have l22 : s1.2.2 = s.2.2 := by rw [es1]; rfl
  -- a slot's TYPE goes over as it is
  have go : ∀ (q i : Nat), ¬ q = 266 → SY s q i → tyS s q i = bdT G 0 code → w_194_147 (Tot (e + 2)) a1 (s.1 70) (s1.2.1 q i) s1 (fun v s' => v = none ∧ BF P E s s' ∧ ∃ N Q : Nat, P ≤ Q ∧ Q ≤ P + 6 ∧ N ≤ 60 ∧ (s'.1 71).toInt = (Q : Int) ∧ (s'.1 72).toInt = (N : Int) ∧ (s'.1 64).toInt = (Q : Int) + N ∧ ∃ b1, seg s' Q N = bdT G b1 code) := by
    intro q i hq hsy hbd
    obtain ⟨y, p, l, k1, k2⟩ := hsy
    have k2' : NY s1 y p l := by
      unfold NY
      rw [r1 231 (by decide), r1 232 (by decide)]
      exact k2
    have hnil : ∀ L, subs (envS (s1.2.1 265 (2 * E)).toInt.toNat [] (s1.2.1 265 (2 * E + 1)).toInt.toNat []) L = L := subs_none (fun c => envS_nil)
    have := b147 (d := e) (P := P) (Q := P) (a1 := a1) (s := s) T1 G1 (by rw [f1 64 (by decide)]; exact hP) ⟨Nat.le_refl _, by omega⟩ ⟨hP1, hP2⟩ f70 hE2 hE hE (y := y) (a3 := s1.2.1 q i) (by rw [r1 q hq]; exact k1) k2' V1 (by rw [hnil, seg_len]; exact k2.2.2.2.2) (fun k hk => f1 k (fun w => hk (by rw [w]; decide))) rr l22
    rw [hnil, sg1, ← SY_ty k1 k2, hbd] at this
    obtain ⟨w1, w2, w3⟩ := this
    refine ⟨w1, w2, Tot.imp w3 ?_⟩
    rintro v s' ⟨x, rfl, m1, m2⟩
    refine ⟨x, rfl, m1, fun x4 hx4 s5 hs5 => ?_⟩
    obtain ⟨n1, n2, N, Q, n3, n4, n5, n6, n7, n8, n9⟩ := m2 x4 hx4 s5 hs5
    exact ⟨n1, n2, N, Q, n3, n4, n5, n6, n7, n8, 0, n9⟩
  rw [f1 75 (by decide)]
  refine ⟨fun q => ?_, fun q => ?_⟩
  · obtain ⟨c1, c2, c3, c4⟩ := hpc.resolve_right (fun w => by omega)
    rw [gT_e] at c3
    refine ⟨by omega, fun x4 hx4 => ⟨by omega, fun x5 hx5 => ⟨by omega, fun x6 hx6 => ⟨by omega, ?_⟩⟩⟩⟩
    have ex : x6.toInt.toNat = 6 * (24 * b + (code - 1000) / 6) + (code - 1000) % 6 := by omega
    rw [ex]
    refine go 238 _ (by decide) (hD _ c3 _ (by rw [gfm_e _ c3] at c4; omega)) ?_
    unfold bdT
    rw [if_pos (by omega), gfb_e _ _ c3 c4]
  · obtain ⟨c1, c2, c3, c4⟩ := (hpc.resolve_left (fun w => by omega)).resolve_right (fun w => by omega)
    refine ⟨by omega, fun x4 hx4 => ⟨by omega, fun x5 hx5 => ⟨by omega, fun x6 hx6 => ⟨by omega, ?_⟩⟩⟩⟩
    have ex : x6.toInt.toNat = 6 * (204 * b + (code - 2000) / 6) + (code - 2000) % 6 := by omega
    rw [ex]
    refine go 247 _ (by decide) ((hR _ c3).1 _ (by rw [ghn_e _ c3] at c4; omega)) ?_
    unfold bdT
    rw [if_neg (by omega), if_pos (by omega), ghb_e _ _ c3 c4]
