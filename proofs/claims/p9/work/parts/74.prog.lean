/-! ===== a program, as it is read and resolved ===== -/
def PG : Type := Nat × Nat × (Nat → Nat) × (Nat → Nat) × (Nat → Nat) × (Nat → Nat) × (Nat → Int) × (Nat → Nat) × (Nat → Nat) × (Nat → Nat → List Nat) × (Nat → Nat → List Nat) × (Nat → List Nat) × (Nat → Nat → List Nat) × (Nat → Nat → List Nat) × (Nat → Nat) × (Nat → Nat) × (Nat → Nat) × (Nat → Nat)
/-- types, funcs -/
def gT (G : PG) : Nat := G.1
def gF (G : PG) : Nat := G.2.1
/-- of a type: formals; whether a struct; its heads from, how many -/
def gfm (G : PG) : Nat → Nat := G.2.2.1
def gst (G : PG) : Nat → Nat := G.2.2.2.1
def ghf (G : PG) : Nat → Nat := G.2.2.2.2.1
def ghm (G : PG) : Nat → Nat := G.2.2.2.2.2.1
/-- of a head: its word, formals, vars; bounds, types of vars, type -/
def gwd (G : PG) : Nat → Int := G.2.2.2.2.2.2.1
def ghn (G : PG) : Nat → Nat := G.2.2.2.2.2.2.2.1
def gvn (G : PG) : Nat → Nat := G.2.2.2.2.2.2.2.2.1
def ghb (G : PG) : Nat → Nat → List Nat := G.2.2.2.2.2.2.2.2.2.1
def gvt (G : PG) : Nat → Nat → List Nat := G.2.2.2.2.2.2.2.2.2.2.1
def ght (G : PG) : Nat → List Nat := G.2.2.2.2.2.2.2.2.2.2.2.1
/-- of a type: bounds, types of fields, fields -/
def gfb (G : PG) : Nat → Nat → List Nat := G.2.2.2.2.2.2.2.2.2.2.2.2.1
def gft (G : PG) : Nat → Nat → List Nat := G.2.2.2.2.2.2.2.2.2.2.2.2.2.1
def gfd (G : PG) : Nat → Nat := G.2.2.2.2.2.2.2.2.2.2.2.2.2.2.1
/-- of a func: its struct, its head, its params -/
def gso (G : PG) : Nat → Nat := G.2.2.2.2.2.2.2.2.2.2.2.2.2.2.2.1
def gfh (G : PG) : Nat → Nat := G.2.2.2.2.2.2.2.2.2.2.2.2.2.2.2.2.1
def gpm (G : PG) : Nat → Nat := G.2.2.2.2.2.2.2.2.2.2.2.2.2.2.2.2.2
/-- the TYPE of a slot, once it is resolved -/
def tyS (s : yS) (q i : Nat) : List Nat := seg s (s.2.1 231 (s.2.1 q i).toInt.toNat).toInt.toNat (s.2.1 232 (s.2.1 q i).toInt.toNat).toInt.toNat
def nT (s : yS) (q i : Nat) : Nat := (s.2.1 q i).toInt.toNat
def pgT (s : yS) (b : Nat) (q d : Nat) : Nat := if d < nT s 233 b then nT s q (24 * b + d) else 0
/-- the program of bank b, H heads in all -/
def pg (s : yS) (b H : Nat) : PG :=
  (nT s 233 b, nT s 252 b, pgT s b 236, pgT s b 235, (fun d => pgT s b 242 d - 204 * b), pgT s b 243,
   (fun h => if h < H then (s.2.1 217 (nT s 244 (204 * b + h))).toInt else 0), (fun h => if h < H then nT s 245 (204 * b + h) else 0), (fun h => if h < H then nT s 248 (204 * b + h) else 0),
   (fun h k => if h < H ∧ k < nT s 245 (204 * b + h) then tyS s 247 (6 * (204 * b + h) + k) else []), (fun h k => if h < H ∧ k < nT s 248 (204 * b + h) then tyS s 250 (6 * (204 * b + h) + k) else []), (fun h => if h < H then tyS s 251 (204 * b + h) else []),
   (fun d k => if k < pgT s b 236 d then tyS s 238 (6 * (24 * b + d) + k) else []), (fun d k => if k < pgT s b 239 d then tyS s 241 (6 * (24 * b + d) + k) else []), pgT s b 239,
   (fun f => if f < nT s 252 b then nT s 261 (60 * b + f) else 0), (fun f => if f < nT s 252 b then nT s 257 (60 * b + f) - 204 * b else 0), (fun f => if f < nT s 252 b then nT s 255 (60 * b + f) else 0))
/-- head h, codes from cd on: what word w finds in type c -/
def isHd (G : PG) (c : Nat) (w : Int) (h cd : Nat) : Prop := (¬ gst G c = 0 ∧ ∃ k, k < gF G ∧ gso G k = c ∧ gwd G (gfh G k) = w ∧ h = gfh G k ∧ cd = 4000 + 6 * k ∧ ∀ k', k' < gF G → k < k' → ¬ (gso G k' = c ∧ gwd G (gfh G k') = w)) ∨ (gst G c = 0 ∧ ∃ j, j < ghm G c ∧ h = ghf G c + j ∧ gwd G h = w ∧ cd = 1000 + 6 * c ∧ ∀ j', j' < ghm G c → j < j' → ¬ gwd G (ghf G c + j') = w)
def noHd (G : PG) (c : Nat) (w : Int) : Prop := (¬ gst G c = 0 ∧ ∀ k, k < gF G → ¬ (gso G k = c ∧ gwd G (gfh G k) = w)) ∨ (gst G c = 0 ∧ ∀ j, j < ghm G c → ¬ gwd G (ghf G c + j) = w)
theorem isHd_inj {G : PG} {c : Nat} {w : Int} {h cd h' cd' : Nat} (a : isHd G c w h cd) (a' : isHd G c w h' cd') : h = h' ∧ cd = cd' := by
  rcases a with ⟨a0, k, a1, a2, a3, a4, a5, a6⟩ | ⟨a0, k, a1, a2, a3, a4, a5⟩
  · rcases a' with ⟨b0, k', b1, b2, b3, b4, b5, b6⟩ | ⟨b0, -⟩
    · have : k = k' := by
        rcases Nat.lt_trichotomy k k' with h | h | h
        · exact absurd ⟨b2, b3⟩ (a6 k' b1 h)
        · exact h
        · exact absurd ⟨a2, a3⟩ (b6 k a1 h)
      subst this
      exact ⟨a4.trans b4.symm, a5.trans b5.symm⟩
    · exact absurd b0 a0
  · rcases a' with ⟨b0, -⟩ | ⟨b0, k', b1, b2, b3, b4, b5⟩
    · exact absurd a0 b0
    · have : k = k' := by
        rcases Nat.lt_trichotomy k k' with h | h | h
        · exact absurd (by rw [← b2]; exact b3) (a5 k' b1 h)
        · exact h
        · exact absurd (by rw [← a2]; exact a3) (b5 k a1 h)
      subst this
      exact ⟨a2.trans b2.symm, a4.trans b4.symm⟩
/-- the tables stand: what findHead and its like need -/
def ST (b n : Nat) (own : Nat → Nat × Nat) (N T F H : Nat) (s : yS) : Prop := b < 2 ∧ n ≤ 4000 ∧ T ≤ 24 ∧ F ≤ 60 ∧ H ≤ 204 ∧ (s.2.1 233 b).toInt = (T : Int) ∧ (s.2.1 252 b).toInt = (F : Int) ∧ RAq own b n N T F H s
theorem s_193 {e b n N T F H p c : Nat} {own : Nat → Nat × Nat} {a1 a2 : Int32} {s : yS} (hS : ST b n own N T F H s) (hT : TYN s) (h75 : (s.1 75).toInt = (b : Int)) (h1 : a1.toInt = (p : Int)) (hp : p < 200000) (hc : tyE s p / 8 = c) (hcT : c < T) (hso : ∀ f, f < F → 0 ≤ (s.2.1 261 (60 * b + f)).toInt) : Tot (e + 2) 193 [.ref 213, .int a1, .int a2] s (fun v s' => ∃ x y : Int32, s' = sf (sf s 73 x) 74 y ∧ ∃ r : Int32, v = some (.int r) ∧ ((r.toInt = 1 ∧ ∃ h cd : Nat, h < H ∧ x.toInt = 204 * (b : Int) + h ∧ y.toInt = (cd : Int) ∧ isHd (pg s b H) c a2.toInt h cd) ∨ (r.toInt = 0 ∧ x.toInt = -1 ∧ noHd (pg s b H) c a2.toInt))) := by
  obtain ⟨hb, hn, hT24, hF60, hH, r33, r52, hA⟩ := hS
  have e1 : a1.toInt.toNat = p := by omega
  have htp := hT p
  have hcI : (s.2.1 264 p).toInt / 8 = (c : Int) := by
    unfold tyE at hc
    omega
  obtain ⟨d1, d2, d3, d4, d5, d6, d7, d8, d9, d10, d11, d12, d13⟩ := hA.1 c hcT
  have n33 : nT s 233 b = T := by unfold nT; omega
  have n52 : nT s 252 b = F := by unfold nT; omega
  have gst_e : gst (pg s b H) c = (s.2.1 235 (24 * b + c)).toInt.toNat := by
    show pgT s b 235 c = _
    unfold pgT
    rw [n33, if_pos hcT]
    rfl
  have ghm_e : ghm (pg s b H) c = (s.2.1 243 (24 * b + c)).toInt.toNat := by
    show pgT s b 243 c = _
    unfold pgT
    rw [n33, if_pos hcT]
    rfl
  have ghf_e : ghf (pg s b H) c = (s.2.1 242 (24 * b + c)).toInt.toNat - 204 * b := by
    show pgT s b 242 c - 204 * b = _
    unfold pgT
    rw [n33, if_pos hcT]
    rfl
  have gF_e : gF (pg s b H) = F := n52
  have gwd_e : ∀ h, h < H → gwd (pg s b H) h = (s.2.1 217 (s.2.1 244 (204 * b + h)).toInt.toNat).toInt := by
    intro h hh
    show (if h < H then _ else _) = _
    rw [if_pos hh]
    rfl
  have gso_e : ∀ f, f < F → (gso (pg s b H) f : Int) = (s.2.1 261 (60 * b + f)).toInt := by
    intro f hf
    have := hso f hf
    show ((if f < nT s 252 b then _ else _ : Nat) : Int) = _
    rw [n52, if_pos hf]
    unfold nT
    omega
  have gfh_e : ∀ f, f < F → (s.2.1 257 (60 * b + f)).toInt = 204 * (b : Int) + gfh (pg s b H) f ∧ gfh (pg s b H) f < H := by
    intro f hf
    obtain ⟨-, q1, q2, -⟩ := hA.2.2.1 f hf
    have : gfh (pg s b H) f = (s.2.1 257 (60 * b + f)).toInt.toNat - 204 * b := by
      show (if f < nT s 252 b then _ else _) = _
      rw [n52, if_pos hf]
      rfl
    rw [this]
    omega
  obtain ⟨G, hG⟩ : ∃ G, G = pg s b H := ⟨_, rfl⟩
  rw [← hG] at gst_e ghm_e ghf_e gF_e gwd_e gso_e gfh_e ⊢
  refine t_193 ?_
  unfold w_193_0
  rw [e1]
  refine ⟨by omega, fun x1 hx1 => ⟨by omega, ?_⟩⟩
  refine Tot.imp (Tot.mono (by omega) (s_185 (d := 0) htp.1)) ?_
  rintro v s2 ⟨es, x4, rfl, hx4⟩
  have es := es.symm
  subst es
  refine ⟨x4, rfl, by omega, fun x5 hx5 => ?_⟩
  rintro s6 rfl
  have e5 : x5.toInt.toNat = 24 * b + c := by omega
  rw [e5]
  have w120 : ∀ (a3 a4 x y : Int32) (t : yS), t = sf (sf s 73 x) 74 y → ((∃ h cd : Nat, h < H ∧ x.toInt = 204 * (b : Int) + h ∧ y.toInt = (cd : Int) ∧ isHd G c a2.toInt h cd) ∨ (x.toInt = -1 ∧ noHd G c a2.toInt)) → w_193_114 (Tot (e + 1)) a1 a2 a3 a4 t (fun v s' => ∃ x y : Int32, s' = sf (sf s 73 x) 74 y ∧ ∃ r : Int32, v = some (.int r) ∧ ((r.toInt = 1 ∧ ∃ h cd : Nat, h < H ∧ x.toInt = 204 * (b : Int) + h ∧ y.toInt = (cd : Int) ∧ isHd G c a2.toInt h cd) ∨ (r.toInt = 0 ∧ x.toInt = -1 ∧ noHd G c a2.toInt))) := by
    intro a3 a4 x y t ht hh
    subst ht
    unfold w_193_114 w_193_120
    have e73 : (sf (sf s 73 x) 74 y).1 73 = x := rfl
    rw [e73]
    refine ⟨fun q => ⟨Or.inl (by decide), x, y, rfl, 0, rfl, Or.inr ⟨by decide, ?_⟩⟩, fun q => ⟨Or.inr (by decide), x, y, rfl, 1, rfl, Or.inl ⟨by decide, ?_⟩⟩⟩
    · rcases hh with ⟨h, cd, q1, q2, q3, q4⟩ | hh
      · omega
      · exact hh
    · rcases hh with hh | hh
      · exact hh
      · omega
  have s0 : sf s 73 (-1) = sf (sf s 73 (-1)) 74 (s.1 74) := by
    rw [show s.1 74 = (sf s 73 (-1)).1 74 from rfl, sf_id]
  have tysame : ∀ (x y : Int32), (sf (sf s 73 x) 74 y).2 = s.2 := fun _ _ => rfl
  refine ⟨by omega, fun q35 => ⟨by omega, ?_⟩, fun q35 => ?_⟩
  · -- an interface
    have st0 : gst G c = 0 := by rw [gst_e]; have : (s.2.1 235 (24 * b + c)).toInt = 0 := q35; omega
    refine ⟨fun b1 b2 b3 b4 t => b1 = a1 ∧ b2 = a2 ∧ b3 = x5 ∧ ∃ x y : Int32, t = sf (sf s 73 x) 74 y ∧ ∃ j : Nat, b4.toInt = (s.2.1 242 (24 * b + c)).toInt + j ∧ j ≤ ghm G c ∧ ((x.toInt = -1 ∧ ∀ j', j' < j → ¬ gwd G (ghf G c + j') = a2.toInt) ∨ (∃ i, i < j ∧ x.toInt = 204 * (b : Int) + (ghf G c + i : Nat) ∧ gwd G (ghf G c + i) = a2.toInt ∧ y.toInt = 1000 + 6 * (c : Int) ∧ ∀ j', j' < j → i < j' → ¬ gwd G (ghf G c + j') = a2.toInt)), fun _ _ _ b4 _ => (10000 - b4.toInt).toNat, ⟨rfl, rfl, rfl, -1, s.1 74, s0, 0, by show (s.2.1 242 (24 * b + c)).toInt = _; omega, by omega, Or.inl ⟨by decide, fun j' hj' => absurd hj' (by omega)⟩⟩, ?_⟩
    rintro b1 b2 b3 b4 t ⟨z1, z2, z3, x, y, rfl, j, j1, j2, j3⟩
    have z1 := z1.symm
    have z2 := z2.symm
    have z3 := z3.symm
    subst z1 z2 z3
    unfold w_193_78
    rw [e5]
    simp only [tysame]
    refine ⟨by clear j3; omega, by clear j3; omega, by clear j3; omega, fun y1 hy1 => ⟨fun hend => w120 _ _ x y _ rfl ?_, fun hmore => ?_⟩⟩
    · have jm : j = ghm G c := by clear j3; omega
      rcases j3 with ⟨k1, k2⟩ | ⟨i, k1, k2, k3, k4, k5⟩
      · exact Or.inr ⟨k1, Or.inr ⟨st0, fun j' hj' => k2 j' (by omega)⟩⟩
      · exact Or.inl ⟨ghf G c + i, 1000 + 6 * c, by omega, k2, by omega, Or.inr ⟨st0, i, by omega, rfl, k3, rfl, fun j' hj' hij => k5 j' (by omega) hij⟩⟩
    · have eb4 : b4.toInt.toNat = 204 * b + (ghf G c + j) := by clear j3; omega
      have hj : ghf G c + j < H := by clear j3; omega
      have tk := tk_in hb hn (hA.2.1 (ghf G c + j) hj).1.1
      rw [eb4]
      have gw := gwd_e (ghf G c + j) hj
      have nx : ∀ (x' y' : Int32), ((x'.toInt = -1 ∧ ∀ j', j' < j + 1 → ¬ gwd G (ghf G c + j') = a2.toInt) ∨ (∃ i, i < j + 1 ∧ x'.toInt = 204 * (b : Int) + (ghf G c + i : Nat) ∧ gwd G (ghf G c + i) = a2.toInt ∧ y'.toInt = 1000 + 6 * (c : Int) ∧ ∀ j', j' < j + 1 → i < j' → ¬ gwd G (ghf G c + j') = a2.toInt)) → (-2147483648 ≤ b4.toInt + 1 ∧ b4.toInt + 1 ≤ 2147483647) ∧ ∀ z : Int32, z.toInt = b4.toInt + 1 → ((a1 = a1 ∧ a2 = a2 ∧ x5 = x5 ∧ ∃ x y : Int32, sf (sf s 73 x') 74 y' = sf (sf s 73 x) 74 y ∧ ∃ j : Nat, z.toInt = (s.2.1 242 (24 * b + c)).toInt + j ∧ j ≤ ghm G c ∧ ((x.toInt = -1 ∧ ∀ j', j' < j → ¬ gwd G (ghf G c + j') = a2.toInt) ∨ (∃ i, i < j ∧ x.toInt = 204 * (b : Int) + (ghf G c + i : Nat) ∧ gwd G (ghf G c + i) = a2.toInt ∧ y.toInt = 1000 + 6 * (c : Int) ∧ ∀ j', j' < j → i < j' → ¬ gwd G (ghf G c + j') = a2.toInt))) ∧ (10000 - z.toInt).toNat < (10000 - b4.toInt).toNat) := fun x' y' hh => ⟨by clear hh j3; omega, fun z hz => ⟨⟨rfl, rfl, rfl, x', y', rfl, j + 1, by clear hh j3; omega, by clear hh j3; omega, hh⟩, by clear hh j3; omega⟩⟩
      refine ⟨by clear j3; omega, ⟨tk.1, tk.2.1⟩, fun hne => nx x y ?_, fun heq => ?_⟩
      · rw [← gw] at hne
        rcases j3 with ⟨k1, k2⟩ | ⟨i, k1, k2, k3, k4, k5⟩
        · refine Or.inl ⟨k1, fun j' hj' => ?_⟩
          by_cases h : j' = j
          · rw [h]; exact hne
          · exact k2 j' (by omega)
        · refine Or.inr ⟨i, by omega, k2, k3, k4, fun j' hj' hij => ?_⟩
          by_cases h : j' = j
          · rw [h]; exact hne
          · exact k5 j' (by omega) hij
      · rw [← gw] at heq
        rintro s2 rfl
        refine ⟨by omega, ?_⟩
        rw [e1]
        refine Tot.imp (Tot.mono (by omega) (s_185 (d := 0) htp.1)) ?_
        rintro v s3 ⟨es, x9, rfl, hx9⟩
        subst es
        have hx9 : x9.toInt = (c : Int) := hx9.trans hcI
        clear j3
        refine ⟨x9, rfl, by omega, fun y6 hy6 => ⟨by omega, fun y7 hy7 => ?_⟩⟩
        rintro s8 rfl
        have es : sf (sf (sf (sf s 73 x) 74 y) 73 b4) 74 y7 = sf (sf s 73 b4) 74 y7 := by
          have : sf (sf (sf s 73 x) 74 y) 73 b4 = sf (sf s 73 b4) 74 y := by
            show (upd (upd (upd s.1 73 x) 74 y) 73 b4, s.2) = (upd (upd s.1 73 b4) 74 y, s.2)
            congr 1
            funext k
            unfold upd
            split
            · rename_i h; subst h; rfl
            · rfl
          rw [this, sf_sf]
        rw [es]
        exact nx b4 y7 (Or.inr ⟨j, by omega, by omega, heq, by omega, fun j' hj' hij => absurd hj' (by omega)⟩)
  · -- a struct
    have st1 : ¬ gst G c = 0 := by
      rw [gst_e]
      have : ¬ (s.2.1 235 (24 * b + c)).toInt = 0 := q35
      omega
    refine ⟨fun b1 b2 b3 b4 t => b1 = a1 ∧ b2 = a2 ∧ b3 = x5 ∧ ∃ x y : Int32, t = sf (sf s 73 x) 74 y ∧ ∃ j : Nat, b4.toInt = (j : Int) ∧ j ≤ F ∧ ((x.toInt = -1 ∧ ∀ j', j' < j → ¬ (gso G j' = c ∧ gwd G (gfh G j') = a2.toInt)) ∨ (∃ i, i < j ∧ x.toInt = 204 * (b : Int) + gfh G i ∧ gso G i = c ∧ gwd G (gfh G i) = a2.toInt ∧ y.toInt = 4000 + 6 * (i : Int) ∧ ∀ j', j' < j → i < j' → ¬ (gso G j' = c ∧ gwd G (gfh G j') = a2.toInt))), fun _ _ _ b4 _ => (10000 - b4.toInt).toNat, ⟨rfl, rfl, rfl, -1, s.1 74, s0, 0, by decide, by omega, Or.inl ⟨by decide, fun j' hj' => absurd hj' (by omega)⟩⟩, ?_⟩
    rintro b1 b2 b3 b4 t ⟨z1, z2, z3, x, y, rfl, j, j1, j2, j3⟩
    have z1 := z1.symm
    have z2 := z2.symm
    have z3 := z3.symm
    subst z1 z2 z3
    have p75 : (sf (sf s 73 x) 74 y).1 75 = s.1 75 := rfl
    have e75 : (s.1 75).toInt.toNat = b := by omega
    unfold w_193_21
    simp only [tysame, p75, e75]
    refine ⟨by clear j3; omega, fun hend => w120 _ _ x y _ rfl ?_, fun hmore => ?_⟩
    · have jm : j = F := by clear j3; omega
      rcases j3 with ⟨k1, k2⟩ | ⟨i, k1, k2, k3, k4, k5, k6⟩
      · exact Or.inr ⟨k1, Or.inl ⟨st1, fun j' hj' => k2 j' (by omega)⟩⟩
      · exact Or.inl ⟨gfh G i, 4000 + 6 * i, (gfh_e i (by omega)).2, k2, by omega, Or.inl ⟨st1, i, by omega, k3, k4, rfl, rfl, fun j' hj' hij => k6 j' (by omega) hij⟩⟩
    · have hjF : j < F := by clear j3; omega
      have gs := gso_e j hjF
      have gf := gfh_e j hjF
      have gw := gwd_e (gfh G j) gf.2
      have tk := tk_in hb hn (hA.2.1 (gfh G j) gf.2).1.1
      have nx : ∀ (x' y' : Int32), ((x'.toInt = -1 ∧ ∀ j', j' < j + 1 → ¬ (gso G j' = c ∧ gwd G (gfh G j') = a2.toInt)) ∨ (∃ i, i < j + 1 ∧ x'.toInt = 204 * (b : Int) + gfh G i ∧ gso G i = c ∧ gwd G (gfh G i) = a2.toInt ∧ y'.toInt = 4000 + 6 * (i : Int) ∧ ∀ j', j' < j + 1 → i < j' → ¬ (gso G j' = c ∧ gwd G (gfh G j') = a2.toInt))) → (-2147483648 ≤ b4.toInt + 1 ∧ b4.toInt + 1 ≤ 2147483647) ∧ ∀ z : Int32, z.toInt = b4.toInt + 1 → ((a1 = a1 ∧ a2 = a2 ∧ x5 = x5 ∧ ∃ x y : Int32, sf (sf s 73 x') 74 y' = sf (sf s 73 x) 74 y ∧ ∃ j : Nat, z.toInt = (j : Int) ∧ j ≤ F ∧ ((x.toInt = -1 ∧ ∀ j', j' < j → ¬ (gso G j' = c ∧ gwd G (gfh G j') = a2.toInt)) ∨ (∃ i, i < j ∧ x.toInt = 204 * (b : Int) + gfh G i ∧ gso G i = c ∧ gwd G (gfh G i) = a2.toInt ∧ y.toInt = 4000 + 6 * (i : Int) ∧ ∀ j', j' < j → i < j' → ¬ (gso G j' = c ∧ gwd G (gfh G j') = a2.toInt)))) ∧ (10000 - z.toInt).toNat < (10000 - b4.toInt).toNat) := fun x' y' hh => ⟨by clear hh j3; omega, fun z hz => ⟨⟨rfl, rfl, rfl, x', y', rfl, j + 1, by clear hh j3; omega, by clear hh j3; omega, hh⟩, by clear hh j3; omega⟩⟩
      have old : ¬ (gso G j = c ∧ gwd G (gfh G j) = a2.toInt) → ((x.toInt = -1 ∧ ∀ j', j' < j + 1 → ¬ (gso G j' = c ∧ gwd G (gfh G j') = a2.toInt)) ∨ (∃ i, i < j + 1 ∧ x.toInt = 204 * (b : Int) + gfh G i ∧ gso G i = c ∧ gwd G (gfh G i) = a2.toInt ∧ y.toInt = 4000 + 6 * (i : Int) ∧ ∀ j', j' < j + 1 → i < j' → ¬ (gso G j' = c ∧ gwd G (gfh G j') = a2.toInt))) := by
        intro hne
        rcases j3 with ⟨k1, k2⟩ | ⟨i, k1, k2, k3, k4, k5, k6⟩
        · refine Or.inl ⟨k1, fun j' hj' => ?_⟩
          by_cases h : j' = j
          · rw [h]; exact hne
          · exact k2 j' (by omega)
        · refine Or.inr ⟨i, by omega, k2, k3, k4, k5, fun j' hj' hij => ?_⟩
          by_cases h : j' = j
          · rw [h]; exact hne
          · exact k6 j' (by omega) hij
      clear j3
      refine ⟨by omega, fun y1 hy1 => ⟨by omega, fun y2 hy2 => ⟨by omega, by omega, ?_⟩⟩⟩
      have ey2 : y2.toInt.toNat = 60 * b + j := by omega
      rw [e1, ey2]
      refine Tot.imp (Tot.mono (by omega) (s_185 (d := 0) htp.1)) ?_
      rintro v s3 ⟨es, x9, rfl, hx9⟩
      subst es
      have hx9 : x9.toInt = (c : Int) := hx9.trans hcI
      simp only [tysame]
      have e257 : (s.2.1 257 (60 * b + j)).toInt.toNat = 204 * b + gfh G j := by omega
      rw [e257]
      refine ⟨x9, rfl, fun hne => nx x y (old (fun w => hne ?_)), fun heq => ⟨by omega, by omega, ⟨tk.1, tk.2.1⟩, fun hne => nx x y (old (fun w => hne ?_)), fun heq2 => ⟨by omega, ?_⟩⟩⟩
      · rw [← gs, w.1]
        omega
      · rw [← gw]
        exact w.2
      · rintro s6 rfl
        refine ⟨by omega, fun y7 hy7 => ⟨by omega, fun y8 hy8 => ?_⟩⟩
        rintro s9 rfl
        have es : ∀ v9, sf (sf (sf (sf s 73 x) 74 y) 73 v9) 74 y8 = sf (sf s 73 v9) 74 y8 := by
          intro v9
          have : sf (sf (sf s 73 x) 74 y) 73 v9 = sf (sf s 73 v9) 74 y := by
            show (upd (upd (upd s.1 73 x) 74 y) 73 v9, s.2) = (upd (upd s.1 73 v9) 74 y, s.2)
            congr 1
            funext k
            unfold upd
            split
            · rename_i h; subst h; rfl
            · rfl
          rw [this, sf_sf]
        rw [es]
        refine nx _ y8 (Or.inr ⟨j, by omega, gf.1, ?_, by rw [gw]; exact heq2, by omega, fun j' hj' hij => absurd hj' (by omega)⟩)
        omega
