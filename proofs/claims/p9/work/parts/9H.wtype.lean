/-! ===== E, typed ===== -/
/-- what stands in openTypes -/
def sg (s : yS) (q l : Nat) : List Nat := (List.range l).map (fun i => if (s.2.1 270 (q + i)).toInt < 0 then 100000 else (s.2.1 270 (q + i)).toInt.toNat)
theorem sg_eq {s s' : yS} {q l : Nat} (h : ∀ i, q ≤ i → i < q + l → s'.2.1 270 i = s.2.1 270 i) : sg s' q l = sg s q l := by
  unfold sg
  refine List.map_congr_left (fun i hi => ?_)
  have := List.mem_range.mp hi
  rw [h (q + i) (by omega) (by omega)]
section WT
variable (G : PG) (H b n : Nat) (sc : Nat → Prop) (tV : Nat → Option (List Nat)) (S O : Nat) (s : yS)
/-- node y's TYPE is L -/
def wT (y : Nat) (L : List Nat) : Prop := ∃ p l : Nat, NY s y p l ∧ 10 + 4100 * b ≤ p ∧ p + l ≤ S ∧ seg s p l = L ∧ okE G sc L ∧ okBa G L
/-- a row of E, as many as are wanted, each taken -/
def wL (Q : Nat → Nat → Nat → List Nat → Prop) (x : Int) (lo hi m : Nat) (fT : Nat → List Nat) : Prop := ∃ cs : List (Nat × Nat × Nat), cs.length = m ∧ chn s x (cs.map (·.2.2)) ∧ ∀ (k : Nat) (c : Nat × Nat × Nat), cs[k]? = some c → lo ≤ c.1 ∧ c.1 ≤ c.2.2 ∧ c.2.2 < c.2.1 ∧ c.2.1 ≤ hi ∧ ∃ B, Q c.1 c.2.1 c.2.2 B ∧ impl G B (fT k)
def wB (Q : Nat → Nat → Nat → List Nat → Prop) (hi e : Nat) (A : List Nat) : Prop := ((s.2.1 221 e).toInt = 1 ∧ ∃ k : Nat, (s.2.1 230 e).toInt = (k : Int) ∧ tV k = some A) ∨ ((s.2.1 221 e).toInt = 2 ∧ ∃ y h : Nat, (s.2.1 229 e).toInt = (y : Int) ∧ e < y ∧ y < h ∧ h ≤ hi ∧ wT G b sc S s y A ∧ ∃ x As, cutT A x As ∧ x / 8 < gT G ∧ ¬ gst G (x / 8) = 0 ∧ wL G s Q (s.2.1 224 e).toInt h hi (gfd G (x / 8)) (fun k => subs (envS (1000 + 6 * (x / 8)) As 0 []) (gft G (x / 8) k)))
/-- the TYPE whose heads are looked at -/
def midT (A0 M : List Nat) : Prop := ((∃ x As, cutT A0 x As ∧ x / 8 < 1000) ∧ M = A0) ∨ (∃ c, 1000 ≤ c ∧ A0 = [8 * c] ∧ M = bdT G 0 c)
/-- a row of TYPES in E -/
def wY (x : Int) (lo hi : Nat) (Bs : List (List Nat)) : Prop := ∃ ys : List Nat, chn s x ys ∧ ys.length = Bs.length ∧ ∀ (k y : Nat), ys[k]? = some y → lo < y ∧ y < hi ∧ ∃ B, Bs[k]? = some B ∧ wT G b sc S s y B
def wM (Q : Nat → Nat → Nat → List Nat → Prop) (hi e : Nat) (A0 A : List Nat) : Prop := ∃ (M : List Nat) (x : Nat) (As : List (List Nat)) (h cd : Nat) (Bs : List (List Nat)) (t q hm : Nat), midT G A0 M ∧ cutT M x As ∧ x / 8 < gT G ∧ (s.2.1 222 e).toInt = (t : Int) ∧ 4002 * b ≤ t ∧ t < 4002 * b + n ∧ isHd G (x / 8) (s.2.1 217 t).toInt h cd ∧ h < H ∧ (s.2.1 271 e).toInt = (q : Int) ∧ (s.2.1 272 e).toInt = (A0.length : Int) ∧ 60000 * b ≤ q ∧ q + A0.length ≤ O ∧ sg s q A0.length = A0 ∧ e < hm ∧ hm ≤ hi ∧ wY G b sc S s (s.2.1 229 e).toInt e hm Bs ∧ Bs.length = ghn G h ∧ (∀ (k : Nat) (B : List Nat), Bs[k]? = some B → impl G B (subs (envS cd As (2000 + 6 * h) Bs) (ghb G h k))) ∧ wL G s Q (s.2.1 224 e).toInt hm hi (gvn G h) (fun k => subs (envS cd As (2000 + 6 * h) Bs) (gvt G h k)) ∧ A = subs (envS cd As (2000 + 6 * h) Bs) (ght G h)
def wP (Q : Nat → Nat → Nat → List Nat → Prop) (hi e : Nat) (A0 A : List Nat) : Prop := ((s.2.1 221 e).toInt = 3 ∧ ∃ (x : Nat) (As : List (List Nat)) (k : Nat), cutT A0 x As ∧ x / 8 < gT G ∧ ¬ gst G (x / 8) = 0 ∧ (s.2.1 226 e).toInt = (k : Int) ∧ k < gfd G (x / 8) ∧ A = subs (envS (1000 + 6 * (x / 8)) As 0 []) (gft G (x / 8) k)) ∨ ((s.2.1 221 e).toInt = 5 ∧ ∃ y : Nat, (s.2.1 229 e).toInt = (y : Int) ∧ e < y ∧ y < hi ∧ wT G b sc S s y A ∧ 4002 * (b : Int) ≤ (s.2.1 223 e).toInt ∧ (s.2.1 223 e).toInt < 4002 * (b : Int) + n) ∨ ((s.2.1 221 e).toInt = 4 ∧ wM G H b n sc S O s Q hi e A0 A)
def wEp (Q : Nat → Nat → Nat → List Nat → Prop) : Nat → Nat → Nat → Nat → List Nat → Prop
  | 0, lo, hi, e, A => e = lo ∧ e < hi ∧ (s.2.1 227 e).toInt = -1 ∧ wB G b sc tV S s Q hi e A ∧ okE G sc A ∧ A.length ≤ 60
  | p + 1, lo, hi, e, A => e < hi ∧ ∃ (a : Nat) (A0 : List Nat), (s.2.1 227 e).toInt = (a : Int) ∧ (s.2.1 228 a).toInt = (e : Int) ∧ wEp Q p lo e a A0 ∧ wP G H b n sc S O s Q hi e A0 A ∧ okE G sc A ∧ A.length ≤ 60
def wE : Nat → Nat → Nat → Nat → List Nat → Prop
  | 0, _, _, _, _ => False
  | m + 1, lo, hi, e, A => ∃ p, p ≤ 20 ∧ wEp G H b n sc tV S O s (wE m) p lo hi e A
end WT
def wR : List Nat := [221, 222, 223, 224, 225, 226, 227, 228, 229, 230, 231, 232, 271, 272]
/-- the same nodes from lo to hi, the same elements ahead of S, the same open TYPES ahead of O -/
def CA (b n lo hi S O : Nat) (s s' : yS) : Prop := (∀ q ∈ wR, ∀ x, lo ≤ x → x < hi → s'.2.1 q x = s.2.1 q x) ∧ (∀ t, 4002 * b ≤ t → t < 4002 * b + n → s'.2.1 217 t = s.2.1 217 t) ∧ (∀ j, 10 + 4100 * b ≤ j → j < S → s'.2.1 264 j = s.2.1 264 j) ∧ ∀ j, 60000 * b ≤ j → j < O → s'.2.1 270 j = s.2.1 270 j
section WTS
variable {G : PG} {H b n : Nat} {sc : Nat → Prop} {tV : Nat → Option (List Nat)} {S O S' O' : Nat} {s s' : yS}
theorem CA_mo {lo hi lo' hi' : Nat} (h : CA b n lo hi S O s s') (h1 : lo ≤ lo') (h2 : hi' ≤ hi) : CA b n lo' hi' S O s s' := ⟨fun q hq x x1 x2 => h.1 q hq x (by omega) (by omega), h.2⟩
theorem wT_eq {lo hi y : Nat} {L : List Nat} (hc : CA b n lo hi S O s s') (hS : S ≤ S') (h1 : lo ≤ y) (h2 : y < hi) (h : wT G b sc S s y L) : wT G b sc S' s' y L := by
  obtain ⟨p, l, k1, k2, k3, k4, k5⟩ := h
  refine ⟨p, l, ?_, k2, by omega, ?_, k5⟩
  · unfold NY
    rw [hc.1 231 (by decide) y h1 h2, hc.1 232 (by decide) y h1 h2]
    exact k1
  · rw [← k4]
    exact seg_eq (fun i i1 i2 => hc.2.2.1 i (by omega) (by omega))
theorem chn_ca {lo hi : Nat} {cs : List Nat} {x : Int} (hc : CA b n lo hi S O s s') (hh : ∀ c ∈ cs, lo ≤ c ∧ c < hi) (h : chn s x cs) : chn s' x cs := chn_eq cs x (fun c hm => hc.1 225 (by decide) c (hh c hm).1 (hh c hm).2) h
theorem wL_eq {Q Q' : Nat → Nat → Nat → List Nat → Prop} {lo hi m : Nat} {x : Int} {fT : Nat → List Nat} (hc : CA b n lo hi S O s s') (hQ : ∀ l h e B, lo ≤ l → h ≤ hi → Q l h e B → Q' l h e B) (h : wL G s Q x lo hi m fT) : wL G s' Q' x lo hi m fT := by
  obtain ⟨cs, k1, k2, k3⟩ := h
  refine ⟨cs, k1, chn_ca hc (fun c hm => ?_) k2, fun k c hk => ?_⟩
  · obtain ⟨t, ht, rfl⟩ := List.mem_map.mp hm
    obtain ⟨k, hk⟩ := List.getElem?_of_mem ht
    obtain ⟨a1, a2, a3, a4, -⟩ := k3 k t hk
    exact ⟨by omega, by omega⟩
  · obtain ⟨a1, a2, a3, a4, B, a5, a6⟩ := k3 k c hk
    exact ⟨a1, a2, a3, a4, B, hQ _ _ _ _ a1 a4 a5, a6⟩
theorem wB_eq {Q Q' : Nat → Nat → Nat → List Nat → Prop} {hi e : Nat} {A : List Nat} (hc : CA b n e hi S O s s') (hS : S ≤ S') (he : e < hi) (hQ : ∀ l h e' B, e < l → h ≤ hi → Q l h e' B → Q' l h e' B) (h : wB G b sc tV S s Q hi e A) : wB G b sc tV S' s' Q' hi e A := by
  have r : ∀ q ∈ wR, s'.2.1 q e = s.2.1 q e := fun q hq => hc.1 q hq e (Nat.le_refl _) he
  rcases h with ⟨a1, k, a2, a3⟩ | ⟨a1, y, h, a2, a3, a4, a5, a6, x, As, a7, a8, a9, a10⟩
  · exact Or.inl ⟨by rw [r 221 (by decide)]; exact a1, k, by rw [r 230 (by decide)]; exact a2, a3⟩
  · refine Or.inr ⟨by rw [r 221 (by decide)]; exact a1, y, h, by rw [r 229 (by decide)]; exact a2, a3, a4, a5, wT_eq hc hS (by omega) (by omega) a6, x, As, a7, a8, a9, ?_⟩
    rw [r 224 (by decide)]
    exact wL_eq (CA_mo hc (by omega) (Nat.le_refl _)) (fun l h' e' B l1 l2 => hQ l h' e' B (by omega) l2) a10
theorem wY_eq {lo hi : Nat} {x : Int} {Bs : List (List Nat)} (hc : CA b n lo hi S O s s') (hS : S ≤ S') (h : wY G b sc S s x lo hi Bs) : wY G b sc S' s' x lo hi Bs := by
  obtain ⟨ys, k1, k2, k3⟩ := h
  refine ⟨ys, chn_ca hc (fun c hm => ?_) k1, k2, fun k y hk => ?_⟩
  · obtain ⟨k, hk⟩ := List.getElem?_of_mem hm
    obtain ⟨a1, a2, -⟩ := k3 k c hk
    exact ⟨by omega, a2⟩
  · obtain ⟨a1, a2, B, a3, a4⟩ := k3 k y hk
    exact ⟨a1, a2, B, a3, wT_eq hc hS (by omega) a2 a4⟩
theorem wM_eq {Q Q' : Nat → Nat → Nat → List Nat → Prop} {hi e : Nat} {A0 A : List Nat} (hc : CA b n e hi S O s s') (hS : S ≤ S') (hO : O ≤ O') (he : e < hi) (hQ : ∀ l h e' B, e < l → h ≤ hi → Q l h e' B → Q' l h e' B) (h : wM G H b n sc S O s Q hi e A0 A) : wM G H b n sc S' O' s' Q' hi e A0 A := by
  have r : ∀ q ∈ wR, s'.2.1 q e = s.2.1 q e := fun q hq => hc.1 q hq e (Nat.le_refl _) he
  obtain ⟨M, x, As, h, cd, Bs, t, q, hm, a1, a2, a3, a4, a5, a6, a7, a8, a9, a10, a11, a12, a13, a14, a15, a16, a17, a18, a19, a20⟩ := h
  refine ⟨M, x, As, h, cd, Bs, t, q, hm, a1, a2, a3, by rw [r 222 (by decide)]; exact a4, a5, a6, by rw [hc.2.1 t a5 a6]; exact a7, a8, by rw [r 271 (by decide)]; exact a9, by rw [r 272 (by decide)]; exact a10, a11, by omega, ?_, a14, a15, ?_, a17, a18, ?_, a20⟩
  · rw [sg_eq (fun i i1 i2 => hc.2.2.2 i (by omega) (by omega))]
    exact a13
  · rw [r 229 (by decide)]
    exact wY_eq (CA_mo hc (Nat.le_refl _) a15) hS a16
  · rw [r 224 (by decide)]
    exact wL_eq (CA_mo hc (by omega) (Nat.le_refl _)) (fun l h' e' B l1 l2 => hQ l h' e' B (by omega) l2) a19
theorem wP_eq {Q Q' : Nat → Nat → Nat → List Nat → Prop} {hi e : Nat} {A0 A : List Nat} (hc : CA b n e hi S O s s') (hS : S ≤ S') (hO : O ≤ O') (he : e < hi) (hQ : ∀ l h e' B, e < l → h ≤ hi → Q l h e' B → Q' l h e' B) (h : wP G H b n sc S O s Q hi e A0 A) : wP G H b n sc S' O' s' Q' hi e A0 A := by
  have r : ∀ q ∈ wR, s'.2.1 q e = s.2.1 q e := fun q hq => hc.1 q hq e (Nat.le_refl _) he
  rcases h with ⟨a1, x, As, k, a2, a3, a4, a5, a6⟩ | ⟨a1, y, a2, a3, a4, a5, a6⟩ | ⟨a1, a2⟩
  · exact Or.inl ⟨by rw [r 221 (by decide)]; exact a1, x, As, k, a2, a3, a4, by rw [r 226 (by decide)]; exact a5, a6⟩
  · exact Or.inr (Or.inl ⟨by rw [r 221 (by decide)]; exact a1, y, by rw [r 229 (by decide)]; exact a2, a3, a4, wT_eq hc hS (by omega) (by omega) a5, by rw [r 223 (by decide)]; exact a6⟩)
  · exact Or.inr (Or.inr ⟨by rw [r 221 (by decide)]; exact a1, wM_eq hc hS hO he hQ a2⟩)
theorem wEp_lt {Q : Nat → Nat → Nat → List Nat → Prop} : ∀ {p lo hi e : Nat} {A : List Nat}, wEp G H b n sc tV S O s Q p lo hi e A → lo ≤ e ∧ e < hi
  | 0, lo, hi, e, A, h => ⟨Nat.le_of_eq h.1.symm, h.2.1⟩
  | p + 1, lo, hi, e, A, h => by
    obtain ⟨h1, a, A0, -, -, h2, -⟩ := h
    have := wEp_lt h2
    exact ⟨by omega, h1⟩
theorem wEp_eq {Q Q' : Nat → Nat → Nat → List Nat → Prop} (hS : S ≤ S') (hO : O ≤ O') : ∀ {p lo hi e : Nat} {A : List Nat}, CA b n lo hi S O s s' → (∀ l h e' B, lo < l → h ≤ hi → Q l h e' B → Q' l h e' B) → wEp G H b n sc tV S O s Q p lo hi e A → wEp G H b n sc tV S' O' s' Q' p lo hi e A
  | 0, lo, hi, e, A, hc, hQ, h => by
    obtain ⟨rfl, h1, h2, h3, h4⟩ := h
    exact ⟨rfl, h1, by rw [hc.1 227 (by decide) e (Nat.le_refl _) h1]; exact h2, wB_eq hc hS h1 hQ h3, h4⟩
  | p + 1, lo, hi, e, A, hc, hQ, h => by
    obtain ⟨h1, a, A0, h2, h3, h4, h5, h6⟩ := h
    have hl := wEp_lt h4
    refine ⟨h1, a, A0, by rw [hc.1 227 (by decide) e (by omega) h1]; exact h2, by rw [hc.1 228 (by decide) a hl.1 (by omega)]; exact h3, wEp_eq hS hO (CA_mo hc (Nat.le_refl _) (by omega)) (fun l h e' B l1 l2 => hQ l h e' B l1 (by omega)) h4, wP_eq (CA_mo hc (by omega) (Nat.le_refl _)) hS hO h1 (fun l h e' B l1 l2 => hQ l h e' B (by omega) l2) h5, h6⟩
theorem wE_eq (hS : S ≤ S') (hO : O ≤ O') : ∀ {m lo hi e : Nat} {A : List Nat}, CA b n lo hi S O s s' → wE G H b n sc tV S O s m lo hi e A → wE G H b n sc tV S' O' s' m lo hi e A
  | 0, _, _, _, _, _, h => h
  | m + 1, lo, hi, e, A, hc, h => by
    obtain ⟨p, hp, h⟩ := h
    exact ⟨p, hp, wEp_eq hS hO hc (fun l h' e' B l1 l2 hq => wE_eq hS hO (CA_mo hc (by omega) l2) hq) h⟩
theorem wEp_ok {Q : Nat → Nat → Nat → List Nat → Prop} {p lo hi e : Nat} {A : List Nat} (h : wEp G H b n sc tV S O s Q p lo hi e A) : okE G sc A ∧ A.length ≤ 60 := by
  cases p with
  | zero => exact h.2.2.2.2
  | succ p =>
    obtain ⟨-, a, A0, -, -, -, -, h6⟩ := h
    exact h6
end WTS
