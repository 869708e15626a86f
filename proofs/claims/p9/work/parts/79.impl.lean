/-! ===== implement ===== -/
theorem s_194 {e b n N T F H P E code : Nat} {own : Nat → Nat × Nat} {a1 : Int32} {s : yS} (hS : ST b n own N T F H s) (hR : RSH b H s) (hD : RSD b T s) (hT : TYN s) (hG : GC s) (h75 : (s.1 75).toInt = (b : Int)) (hP : (s.1 64).toInt = (P : Int)) (hP1 : 13000 ≤ P) (hP2 : P ≤ 199800) (hE : (s.1 70).toInt = (E : Int)) (hE2 : E ≤ 290) (h1 : a1.toInt = (code : Int)) (hso : ∀ f, f < F → 0 ≤ (s.2.1 261 (60 * b + f)).toInt) (hpc : PC (pg s b H) H code) : Tot (e + 3) 194 [.ref 213, .int a1] s (fun v s' => v = none ∧ BF P E s s' ∧ ∃ N Q : Nat, P ≤ Q ∧ Q ≤ P + 6 ∧ N ≤ 60 ∧ (s'.1 71).toInt = (Q : Int) ∧ (s'.1 72).toInt = (N : Int) ∧ (s'.1 64).toInt = (Q : Int) + N ∧ ∃ b1, seg s' Q N = bdT (pg s b H) b1 code) := by
  by_cases q : code < 4000
  · exact s_194a hS hR hD hT hG h75 hP hP1 hP2 hE hE2 h1 q hpc
  · exact s_194b hS hD hT hG h75 hP hP1 hP2 hE hE2 h1 (by omega) hso hpc
/-- a TYPE, cut: its first element, its arguments -/
def cutT (L : List Nat) (x : Nat) (As : List (List Nat)) : Prop := L = x :: As.flatten ∧ (∀ B ∈ As, isF 1 B) ∧ As.length = x % 8
theorem cutT_ex {L : List Nat} (h : isF 1 L) : ∃ x As, cutT L x As := by
  obtain ⟨x, A, B, rfl, h1, h2⟩ := isF_1 (k := 0) h
  have := isF_0 h2
  subst this
  obtain ⟨As, g1, g2, g3⟩ := isF_args h1
  exact ⟨x, As, by rw [List.append_nil, g2], g3, g1⟩
theorem cutT_inj {L : List Nat} {x y : Nat} {As Bs : List (List Nat)} (h : cutT L x As) (h' : cutT L y Bs) : x = y ∧ As = Bs := by
  obtain ⟨h1, h2, h3⟩ := h
  obtain ⟨g1, g2, g3⟩ := h'
  rw [h1] at g1
  have e := List.cons.inj g1
  refine ⟨e.1, args_inj h2 g2 (by rw [h3, g3, e.1]) e.2⟩
theorem cutT_F {L : List Nat} {x : Nat} {As : List (List Nat)} (h : cutT L x As) : isF 1 L := by
  obtain ⟨rfl, h2, h3⟩ := h
  refine ⟨by decide, ?_⟩
  have := isF_flat h2
  rw [h3] at this
  rw [show 1 - 1 + x % 8 = x % 8 by omega]
  exact this
/-- the heads of interface c, with arguments As, are all met by S -/
def meets (G : PG) (c : Nat) (As : List (List Nat)) (S : List Nat) : Prop := ∃ x Bs, cutT S x Bs ∧ ∀ j, j < ghm G c → ∃ g cd, isHd G (x / 8) (gwd G (ghf G c + j)) g cd ∧ alk G (ghf G c + j) (1000 + 6 * c) As g cd Bs
/-- implement said yes -/
def impl (G : PG) (S I : List Nat) : Prop := ∃ x As, cutT I x As ∧ (((1000 ≤ x / 8 ∨ ¬ gst G (x / 8) = 0) ∧ S = I) ∨ (x / 8 < 1000 ∧ gst G (x / 8) = 0 ∧ ∃ y Bs, cutT S y Bs ∧ ((y / 8 < 1000 ∧ meets G (x / 8) As S) ∨ (1000 ≤ y / 8 ∧ ∃ b1, meets G (x / 8) As (bdT G b1 (y / 8))))))
/-- where a TYPE may stand as a subject of implement -/
def okSub (G : PG) (T H : Nat) (S : List Nat) : Prop := ∃ y Bs, cutT S y Bs ∧ Bs.length ≤ 6 ∧ (y / 8 < T ∨ (PC G H (y / 8) ∧ ∀ b1, ∃ z Cs, cutT (bdT G b1 (y / 8)) z Cs ∧ Cs.length ≤ 6 ∧ z / 8 < T))
/-- fields are resolved -/
def RSF (b T : Nat) (s : yS) : Prop := ∀ d, d < T → ∀ k : Nat, (k : Int) < (s.2.1 239 (24 * b + d)).toInt → SY s 241 (6 * (24 * b + d) + k)
theorem SY_eq {s s' : yS} {q i : Nat} (hr : ∀ p, p ∉ [264, 265, 266, 267, 268] → s'.2.1 p = s.2.1 p) (ht : ∀ j, j < 13000 → s'.2.1 264 j = s.2.1 264 j) (hq : q ∉ [264, 265, 266, 267, 268]) (h : SY s q i) : SY s' q i ∧ tyS s' q i = tyS s q i := by
  obtain ⟨y, p, l, h1, h2⟩ := h
  have e : (s'.2.1 q i).toInt = (y : Int) := by rw [hr q hq]; exact h1
  have n : NY s' y p l := by
    unfold NY
    rw [hr 231 (by decide), hr 232 (by decide)]
    exact h2
  refine ⟨⟨y, p, l, e, n⟩, ?_⟩
  rw [SY_ty e n, SY_ty h1 h2]
  exact seg_eq (fun j _ h3 => ht j (by have := h2.2.2.2; omega))
/-- the program stays -/
theorem pg_eq {b T H : Nat} {s s' : yS} (hr : ∀ p, p ∉ [264, 265, 266, 267, 268] → s'.2.1 p = s.2.1 p) (ht : ∀ j, j < 13000 → s'.2.1 264 j = s.2.1 264 j) (h33 : (s.2.1 233 b).toInt = (T : Int)) (hH : RSH b H s) (hD : RSD b T s) (hF : RSF b T s) : pg s' b H = pg s b H := by
  have n : ∀ q i, q ∉ [264, 265, 266, 267, 268] → nT s' q i = nT s q i := fun q i hq => by unfold nT; rw [hr q hq]
  have n33 : nT s 233 b = T := by unfold nT; omega
  have pt : ∀ q, q ∉ [264, 265, 266, 267, 268] → pgT s' b q = pgT s b q := fun q hq => by
    funext d
    unfold pgT
    rw [n 233 b (by decide), n q _ hq]
  have dlt : ∀ q d k, k < pgT s b q d → d < T ∧ (k : Int) < (s.2.1 q (24 * b + d)).toInt := by
    intro q d k hk
    unfold pgT at hk
    rw [n33] at hk
    split at hk
    · rename_i hd
      refine ⟨hd, ?_⟩
      unfold nT at hk
      omega
    · omega
  unfold pg
  refine Prod.ext (n 233 b (by decide)) (Prod.ext (n 252 b (by decide)) (Prod.ext (pt 236 (by decide)) (Prod.ext (pt 235 (by decide)) (Prod.ext ?_ (Prod.ext (pt 243 (by decide)) (Prod.ext ?_ (Prod.ext ?_ (Prod.ext ?_ (Prod.ext ?_ (Prod.ext ?_ (Prod.ext ?_ (Prod.ext ?_ (Prod.ext ?_ (Prod.ext (pt 239 (by decide)) (Prod.ext ?_ (Prod.ext ?_ ?_))))))))))))))))
  · funext d
    show pgT s' b 242 d - 204 * b = pgT s b 242 d - 204 * b
    rw [pt 242 (by decide)]
  · funext h
    show (if h < H then _ else _) = (if h < H then _ else _)
    rw [n 244 _ (by decide), hr 217 (by decide)]
  · funext h
    show (if h < H then _ else _) = (if h < H then _ else _)
    rw [n 245 _ (by decide)]
  · funext h
    show (if h < H then _ else _) = (if h < H then _ else _)
    rw [n 248 _ (by decide)]
  · funext h k
    show (if h < H ∧ k < nT s' 245 (204 * b + h) then _ else _) = (if h < H ∧ k < nT s 245 (204 * b + h) then _ else _)
    rw [n 245 _ (by decide)]
    split
    · rename_i w
      refine (SY_eq hr ht (by decide) ((hH h w.1).1 k ?_)).2
      have := w.2
      unfold nT at this
      omega
    · rfl
  · funext h k
    show (if h < H ∧ k < nT s' 248 (204 * b + h) then _ else _) = (if h < H ∧ k < nT s 248 (204 * b + h) then _ else _)
    rw [n 248 _ (by decide)]
    split
    · rename_i w
      refine (SY_eq hr ht (by decide) ((hH h w.1).2.1 k ?_)).2
      have := w.2
      unfold nT at this
      omega
    · rfl
  · funext h
    show (if h < H then _ else _) = (if h < H then _ else _)
    split
    · rename_i w
      exact (SY_eq hr ht (by decide) (hH h w).2.2).2
    · rfl
  · funext d k
    show (if k < pgT s' b 236 d then _ else _) = (if k < pgT s b 236 d then _ else _)
    rw [pt 236 (by decide)]
    split
    · rename_i w
      have := dlt 236 d k w
      exact (SY_eq hr ht (by decide) (hD d this.1 k this.2)).2
    · rfl
  · funext d k
    show (if k < pgT s' b 239 d then _ else _) = (if k < pgT s b 239 d then _ else _)
    rw [pt 239 (by decide)]
    split
    · rename_i w
      have := dlt 239 d k w
      exact (SY_eq hr ht (by decide) (hF d this.1 k this.2)).2
    · rfl
  · funext f
    show (if f < nT s' 252 b then _ else _) = (if f < nT s 252 b then _ else _)
    rw [n 252 b (by decide), n 261 _ (by decide)]
  · funext f
    show (if f < nT s' 252 b then _ else _) = (if f < nT s 252 b then _ else _)
    rw [n 252 b (by decide), n 257 _ (by decide)]
  · funext f
    show (if f < nT s' 252 b then _ else _) = (if f < nT s 252 b then _ else _)
    rw [n 252 b (by decide), n 255 _ (by decide)]
