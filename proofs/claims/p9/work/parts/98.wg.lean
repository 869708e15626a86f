/-! ===== a program, well made ===== -/
/-- an element: a type with as many arguments as it has formals, or a parameter in scope -/
def vE (G : PG) (sc : Nat → Prop) (x : Nat) : Prop := (x / 8 < gT G ∧ x % 8 = gfm G (x / 8)) ∨ (x % 8 = 0 ∧ 1000 ≤ x / 8 ∧ sc (x / 8))
def okE (G : PG) (sc : Nat → Prop) (L : List Nat) : Prop := isF 1 L ∧ ∀ x ∈ L, vE G sc x
def scDg (G : PG) (d c : Nat) : Prop := ∃ k, k < gfm G d ∧ c = 1000 + 6 * d + k
def inH (G : PG) (d h : Nat) : Prop := d < gT G ∧ ghf G d ≤ h ∧ h < ghf G d + ghm G d
def scHg (G : PG) (h c : Nat) : Prop := (∃ k, k < ghn G h ∧ c = 2000 + 6 * h + k) ∨ (∃ d, inH G d h ∧ scDg G d c) ∨ (∃ f, f < gF G ∧ gfh G f = h ∧ ∃ k, k < gpm G f ∧ c = 4000 + 6 * f + k)
/-- a TYPE of an interface -/
def isI (G : PG) (L : List Nat) : Prop := ∃ x As, cutT L x As ∧ x / 8 < gT G ∧ gst G (x / 8) = 0
def WG (G : PG) (H : Nat) : Prop := (gT G ≤ 24 ∧ gF G ≤ 60 ∧ H ≤ 204) ∧ (∀ d, d < gT G → gfm G d ≤ 6 ∧ gfd G d ≤ 6 ∧ ghm G d ≤ 6 ∧ ghf G d + ghm G d ≤ H) ∧ (∀ h, h < H → ghn G h ≤ 6 ∧ gvn G h ≤ 6) ∧ (∀ d, d < gT G → ∀ k, k < gfm G d → okE G (scDg G d) (gfb G d k) ∧ (gfb G d k).length ≤ 60 ∧ isI G (gfb G d k)) ∧ (∀ d, d < gT G → ∀ k, k < gfd G d → okE G (scDg G d) (gft G d k) ∧ (gft G d k).length ≤ 60) ∧ (∀ h, h < H → (∀ k, k < ghn G h → okE G (scHg G h) (ghb G h k) ∧ (ghb G h k).length ≤ 60 ∧ isI G (ghb G h k)) ∧ (∀ k, k < gvn G h → okE G (scHg G h) (gvt G h k) ∧ (gvt G h k).length ≤ 60) ∧ okE G (scHg G h) (ght G h) ∧ (ght G h).length ≤ 60) ∧ (∀ f, f < gF G → gfh G f < H ∧ gso G f < gT G ∧ ¬ gst G (gso G f) = 0 ∧ gfm G (gso G f) = gpm G f) ∧ (∀ f f', f < gF G → f' < gF G → gfh G f = gfh G f' → f = f') ∧ (∀ f d, f < gF G → ¬ inH G d (gfh G f)) ∧ ∀ d d' h, inH G d h → inH G d' h → d = d'
theorem vE_mo {G : PG} {sc sc' : Nat → Prop} {x : Nat} (h : vE G sc x) (hs : ∀ c, sc c → sc' c) : vE G sc' x := by
  rcases h with h | ⟨h1, h2, h3⟩
  · exact Or.inl h
  · exact Or.inr ⟨h1, h2, hs _ h3⟩
theorem okE_mo {G : PG} {sc sc' : Nat → Prop} {L : List Nat} (h : okE G sc L) (hs : ∀ c, sc c → sc' c) : okE G sc' L := ⟨h.1, fun x hx => vE_mo (h.2 x hx) hs⟩
theorem sub_none {σ : Nat → Option (List Nat)} {x : Nat} (h : σ (x / 8) = none) : sub σ x = [x] := by unfold sub; rw [h]
theorem sub_some {σ : Nat → Option (List Nat)} {x : Nat} {A : List Nat} (h : σ (x / 8) = some A) : sub σ x = A := by unfold sub; rw [h]
/-- put leaves TYPES -/
theorem vE_subs {G : PG} {sc sc' : Nat → Prop} {σ : Nat → Option (List Nat)} {L : List Nat} (hT : gT G ≤ 24) (h : ∀ x ∈ L, vE G sc x) (h0 : ∀ c, c < 1000 → σ c = none) (hσ : ∀ c, sc c → (∃ A, σ c = some A ∧ okE G sc' A) ∨ (σ c = none ∧ sc' c)) : okS σ L ∧ ∀ x ∈ subs σ L, vE G sc' x := by
  refine ⟨fun x hx A hA => ?_, fun x hx => ?_⟩
  · rcases h x hx with w | ⟨w1, w2, w3⟩
    · rw [h0 _ (by omega)] at hA
      cases hA
    · rcases hσ _ w3 with ⟨A', e, k⟩ | ⟨e, -⟩
      · rw [hA] at e
        cases e
        exact ⟨k.1, w1⟩
      · rw [hA] at e; cases e
  · obtain ⟨y, hy, hx⟩ := List.mem_flatMap.mp hx
    rcases h y hy with w | ⟨w1, w2, w3⟩
    · rw [sub_none (h0 _ (by omega))] at hx
      rw [List.mem_singleton.mp hx]
      exact Or.inl w
    · rcases hσ _ w3 with ⟨A', e, k⟩ | ⟨e, k⟩
      · rw [sub_some e] at hx
        exact k.2 x hx
      · rw [sub_none e] at hx
        rw [List.mem_singleton.mp hx]
        exact Or.inr ⟨w1, w2, k⟩
theorem okE_subs {G : PG} {sc sc' : Nat → Prop} {σ : Nat → Option (List Nat)} {L : List Nat} (hT : gT G ≤ 24) (h : okE G sc L) (h0 : ∀ c, c < 1000 → σ c = none) (hσ : ∀ c, sc c → (∃ A, σ c = some A ∧ okE G sc' A) ∨ (σ c = none ∧ sc' c)) : okE G sc' (subs σ L) := by
  obtain ⟨k1, k2⟩ := vE_subs hT h.2 h0 hσ
  exact ⟨isF_subs k1 h.1, k2⟩
/-- put, and put -/
theorem subs_comp {σ τ : Nat → Option (List Nat)} : ∀ {L : List Nat}, (∀ x ∈ L, (∃ A, σ (x / 8) = some A) ∨ τ (x / 8) = none) → subs τ (subs σ L) = subs (fun c => (σ c).map (subs τ)) L
  | [], _ => rfl
  | x :: L, h => by
    have ih := subs_comp (σ := σ) (τ := τ) (L := L) (fun y hy => h y (List.mem_cons_of_mem _ hy))
    rw [subs_cons, subs_cons, subs_app, ih]
    congr 1
    cases e : σ (x / 8) with
    | some A =>
      rw [sub_some e, sub_some (A := subs τ A) (by show (σ (x / 8)).map _ = _; rw [e]; rfl)]
    | none =>
      rw [sub_none e, sub_none (by show (σ (x / 8)).map _ = _; rw [e]; rfl)]
      rcases h x List.mem_cons_self with ⟨A, w⟩ | w
      · rw [e] at w; cases w
      · rw [subs_cons, sub_none w]
        rfl
theorem envS_map {ca cb c : Nat} {As Bs : List (List Nat)} {f : List Nat → List Nat} : (envS ca As cb Bs c).map f = envS ca (As.map f) cb (Bs.map f) c := by
  unfold envS
  split
  · rfl
  · unfold grp
    by_cases h1 : ca ≤ c
    · rw [if_pos h1, if_pos h1, List.getElem?_map]
      cases As[c - ca]? with
      | some A => rfl
      | none =>
        show Option.map f (if cb ≤ c then _ else _) = (if cb ≤ c then _ else _)
        by_cases h2 : cb ≤ c
        · rw [if_pos h2, if_pos h2, List.getElem?_map]
        · rw [if_neg h2, if_neg h2]; rfl
    · rw [if_neg h1, if_neg h1]
      show Option.map f (if cb ≤ c then _ else _) = (if cb ≤ c then _ else _)
      by_cases h2 : cb ≤ c
      · rw [if_pos h2, if_pos h2, List.getElem?_map]
      · rw [if_neg h2, if_neg h2]; rfl
theorem subs_env {ca cb : Nat} {As Bs : List (List Nat)} {τ : Nat → Option (List Nat)} {L : List Nat} (h : ∀ x ∈ L, (∃ A, envS ca As cb Bs (x / 8) = some A) ∨ τ (x / 8) = none) : subs τ (subs (envS ca As cb Bs) L) = subs (envS ca (As.map (subs τ)) cb (Bs.map (subs τ))) L := by
  rw [subs_comp h]
  congr 1
  funext c
  exact envS_map
theorem envS_lt {ca cb c : Nat} {As Bs : List (List Nat)} (h : c < 1000) : envS ca As cb Bs c = none := by unfold envS; rw [if_pos h]
theorem subs_flat {σ : Nat → Option (List Nat)} : ∀ {As : List (List Nat)}, subs σ As.flatten = (As.map (subs σ)).flatten
  | [] => rfl
  | A :: As => by
    show subs σ (A ++ As.flatten) = subs σ A ++ (As.map (subs σ)).flatten
    rw [subs_app, subs_flat]
theorem okS_mem {σ : Nat → Option (List Nat)} {L : List Nat} {x : Nat} {As : List (List Nat)} (hc : cutT L x As) (h : okS σ L) : ∀ A ∈ As, okS σ A := by
  intro A hA y hy
  refine h y ?_
  rw [hc.1]
  exact List.mem_cons_of_mem _ (List.mem_flatten.mpr ⟨A, hA, hy⟩)
/-- a type's arguments, put -/
theorem cut_subs {σ : Nat → Option (List Nat)} {L : List Nat} {x : Nat} {As : List (List Nat)} (hc : cutT L x As) (h : okS σ L) (hx : σ (x / 8) = none) : cutT (subs σ L) x (As.map (subs σ)) := by
  refine ⟨?_, fun B hB => ?_, by rw [List.length_map]; exact hc.2.2⟩
  · rw [hc.1, subs_cons, sub_none hx, subs_flat]
    rfl
  · obtain ⟨A, hA, rfl⟩ := List.mem_map.mp hB
    exact isF_subs (okS_mem hc h A hA) (hc.2.1 A hA)
theorem okE_cut {G : PG} {sc : Nat → Prop} {L : List Nat} {x : Nat} {As : List (List Nat)} (hc : cutT L x As) (h : okE G sc L) : vE G sc x ∧ ∀ A ∈ As, okE G sc A := by
  refine ⟨h.2 x (by rw [hc.1]; exact List.mem_cons_self), fun A hA => ⟨hc.2.1 A hA, fun y hy => h.2 y ?_⟩⟩
  rw [hc.1]
  exact List.mem_cons_of_mem _ (List.mem_flatten.mpr ⟨A, hA, hy⟩)
/-- head h, seen with arguments As from code ca on -/
def fitH (G : PG) (h ca : Nat) (As : List (List Nat)) : Prop := (∃ d, inH G d h ∧ ca = 1000 + 6 * d ∧ As.length = gfm G d) ∨ (∃ f, f < gF G ∧ gfh G f = h ∧ ca = 4000 + 6 * f ∧ As.length = gpm G f)
theorem hd_fit {G : PG} {H c h cd : Nat} {w : Int} {As : List (List Nat)} (hW : WG G H) (hc : c < gT G) (hh : isHd G c w h cd) (hA : As.length = gfm G c) : fitH G h cd As ∧ h < H := by
  obtain ⟨-, g2, -, -, -, -, g7, -⟩ := hW
  rcases hh with ⟨a0, k, a1, a2, a3, a4, a5, -⟩ | ⟨a0, j, a1, a2, a3, a4, -⟩
  · have := g7 k a1
    rw [a2] at this
    exact ⟨Or.inr ⟨k, a1, a4.symm, a5, by rw [hA]; exact this.2.2.2⟩, by rw [a4]; exact this.1⟩
  · have := g2 c hc
    exact ⟨Or.inl ⟨c, ⟨hc, by omega, by omega⟩, a4, hA⟩, by omega⟩
theorem grp_some {base c : Nat} {As : List (List Nat)} (h1 : base ≤ c) (h2 : c - base < As.length) : ∃ A, grp base As c = some A ∧ A ∈ As := by
  unfold grp
  rw [if_pos h1, List.getElem?_eq_getElem h2]
  exact ⟨_, rfl, List.getElem_mem h2⟩
theorem grp_none {base c : Nat} {As : List (List Nat)} (h : c < base ∨ As.length ≤ c - base) : grp base As c = none := by
  unfold grp
  split
  · rename_i w
    exact List.getElem?_eq_none (by omega)
  · rfl
theorem envS_1 {b0 b1 c : Nat} {As Bs : List (List Nat)} {A : List Nat} (hc : 1000 ≤ c) (h : grp b0 As c = some A) : envS b0 As b1 Bs c = some A := by
  unfold envS
  rw [if_neg (by omega), h]
theorem envS_2 {b0 b1 c : Nat} {As Bs : List (List Nat)} (hc : 1000 ≤ c) (h : grp b0 As c = none) : envS b0 As b1 Bs c = grp b1 Bs c := by
  unfold envS
  rw [if_neg (by omega), h]
/-- such an env says all that a head's TYPES name -/
theorem fit_cov {G : PG} {H h ca c : Nat} {As Bs : List (List Nat)} (hW : WG G H) (hh : h < H) (hf : fitH G h ca As) (hB : Bs.length = ghn G h) (hc : scHg G h c) : ∃ A, envS ca As (2000 + 6 * h) Bs c = some A ∧ (A ∈ As ∨ A ∈ Bs) := by
  obtain ⟨⟨g0, g0', g0''⟩, g2, g3, -, -, -, g7, g8, g9, g10⟩ := hW
  have h6 := (g3 h hh).1
  rcases hc with ⟨k, k1, k2⟩ | ⟨d, d1, k, k1, k2⟩ | ⟨f, f1, f2, k, k1, k2⟩
  · have hn : grp ca As c = none := by
      rcases hf with ⟨d, d1, d2, d3⟩ | ⟨f, f1, f2, f3, f4⟩
      · have := (g2 d d1.1).1
        have := d1.1
        exact grp_none (Or.inr (by omega))
      · exact grp_none (Or.inl (by omega))
    obtain ⟨A, e, m⟩ := grp_some (base := 2000 + 6 * h) (c := c) (As := Bs) (by omega) (by omega)
    exact ⟨A, by rw [envS_2 (by omega) hn]; exact e, Or.inr m⟩
  · rcases hf with ⟨d', e1, e2, e3⟩ | ⟨f, f1, f2, f3, f4⟩
    · have := g10 d d' h d1 e1
      subst this
      obtain ⟨A, e, m⟩ := grp_some (base := ca) (c := c) (As := As) (by omega) (by omega)
      exact ⟨A, envS_1 (by omega) e, Or.inl m⟩
    · rw [← f2] at d1
      exact absurd d1 (g9 f d f1)
  · rcases hf with ⟨d', e1, e2, e3⟩ | ⟨f', e1, e2, e3, e4⟩
    · rw [← f2] at e1
      exact absurd e1 (g9 f d' f1)
    · have := g8 f f' f1 e1 (by rw [f2, e2])
      subst this
      obtain ⟨A, e, m⟩ := grp_some (base := ca) (c := c) (As := As) (by omega) (by omega)
      exact ⟨A, envS_1 (by omega) e, Or.inl m⟩
/-- the formals of a type -/
theorem dcl_cov {G : PG} {d c b1 : Nat} {As Bs : List (List Nat)} (hA : As.length = gfm G d) (hc : scDg G d c) : ∃ A, envS (1000 + 6 * d) As b1 Bs c = some A ∧ A ∈ As := by
  obtain ⟨k, k1, k2⟩ := hc
  obtain ⟨A, e, m⟩ := grp_some (base := 1000 + 6 * d) (c := c) (As := As) (by omega) (by omega)
  exact ⟨A, envS_1 (by omega) e, m⟩
theorem plc_len {n : Nat} : (plc n).length = n := by unfold plc; rw [List.length_map, List.length_range]
theorem plc_mem {n : Nat} {A : List Nat} (h : A ∈ plc n) : ∃ a, a < n ∧ A = [8 * (5000 + a)] := by
  unfold plc at h
  obtain ⟨a, ha, rfl⟩ := List.mem_map.mp h
  exact ⟨a, List.mem_range.mp ha, rfl⟩
theorem plc_subs {n : Nat} {τ : Nat → Option (List Nat)} (h : ∀ c, 5000 ≤ c → τ c = none) : (plc n).map (subs τ) = plc n := by
  have : ∀ A ∈ plc n, subs τ A = A := by
    intro A hA
    obtain ⟨a, -, rfl⟩ := plc_mem hA
    rw [subs_cons, sub_none (h _ (by omega))]
    rfl
  conv => rhs; rw [← List.map_id (plc n)]
  exact List.map_congr_left this
/-- alike stays, whatever is put for parameters -/
theorem alk_sub {G : PG} {H h ca g cb : Nat} {As Bs : List (List Nat)} {τ : Nat → Option (List Nat)} (hW : WG G H) (hh : h < H) (hg : g < H) (h1 : fitH G h ca As) (h2 : fitH G g cb Bs) (hτ0 : ∀ c, c < 1000 → τ c = none) (hτ5 : ∀ c, 5000 ≤ c → τ c = none) (ha : alk G h ca As g cb Bs) : alk G h ca (As.map (subs τ)) g cb (Bs.map (subs τ)) := by
  have hT := hW.1.1
  have key : ∀ {h ca : Nat} {As : List (List Nat)}, h < H → fitH G h ca As → ∀ L, okE G (scHg G h) L → subs τ (subs (envS ca As (2000 + 6 * h) (plc (ghn G h))) L) = subs (envS ca (As.map (subs τ)) (2000 + 6 * h) (plc (ghn G h))) L := by
    intro h ca As hh hf L hL
    rw [subs_env, plc_subs hτ5]
    intro x hx
    rcases hL.2 x hx with w | ⟨w1, w2, w3⟩
    · exact Or.inr (hτ0 _ (by omega))
    · obtain ⟨A, e, -⟩ := fit_cov hW hh hf plc_len w3
      exact Or.inl ⟨A, e⟩
  obtain ⟨a1, a2, a3, a4, a5⟩ := ha
  obtain ⟨b1, b2, b3, -⟩ := hW.2.2.2.2.2.1 h hh
  obtain ⟨c1, c2, c3, -⟩ := hW.2.2.2.2.2.1 g hg
  refine ⟨a1, fun k hk => ?_, a3, fun k hk => ?_, ?_⟩
  · rw [← key hh h1 _ (b1 k hk).1, ← key hg h2 _ (c1 k (by omega)).1, a2 k hk]
  · rw [← key hh h1 _ (b2 k hk).1, ← key hg h2 _ (c2 k (by omega)).1, a4 k hk]
  · rw [← key hh h1 _ b3, ← key hg h2 _ c3, a5]
theorem alk_tr {G : PG} {h ca g cb k cc : Nat} {As Bs Cs : List (List Nat)} (h1 : alk G h ca As g cb Bs) (h2 : alk G g cb Bs k cc Cs) : alk G h ca As k cc Cs := by
  obtain ⟨a1, a2, a3, a4, a5⟩ := h1
  obtain ⟨b1, b2, b3, b4, b5⟩ := h2
  exact ⟨a1.trans b1, fun i hi => (a2 i hi).trans (b2 i (by omega)), a3.trans b3, fun i hi => (a4 i hi).trans (b4 i (by omega)), a5.trans b5⟩
