/-! ===== the reference: behind the lexer program leaves the words alone (wip/p11/gnl.py) ===== -/
def yQ7 (a : Nat) : Prop := a = 234 ∨ a = 237 ∨ a = 238 ∨ a = 240 ∨ a = 244 ∨ a = 246 ∨ a = 247 ∨ a = 249
theorem yq_ok {a : Nat} (h : yQ7 a) : ∃ n, ytab a = some (0, n) := by
  rcases h with rfl | rfl | rfl | rfl | rfl | rfl | rfl | rfl <;> exact ⟨_, rfl⟩
theorem yq_ne {a : Nat} (h : yQ7 a) : ¬ a = 217 := by
  unfold yQ7 at h
  omega
def Nq (s s' : yS) : Prop := s'.2.2 = s.2.2 ∧ s'.2.1 217 = s.2.1 217
theorem nq_tr {s u w : yS} (a : Nq s u) (b : Nq u w) : Nq s w := ⟨b.1.trans a.1, b.2.trans a.2⟩
theorem nq_sf {s0 s u : yS} {k : Nat} {x : Int32} (e : u = sf s k x) (h : Nq s0 s) : Nq s0 u := by
  rw [e]
  exact h
theorem nq_sa {s0 s u : yS} {q i : Nat} {x : Int32} (e : u = sa s q i x) (h : Nq s0 s) (hq : ¬ q = 217) : Nq s0 u := by
  rw [e]
  refine ⟨h.1, ?_⟩
  funext j
  rw [sa_21, if_neg (fun w => hq w.1.symm)]
  exact congrFun h.2 j
theorem nl_163_13 {d : Nat} {s0 : yS}    {a1 : Int32} {a2 : Int32}  {s : yS} (h : Nq s0 s) : ub_163_13 (Par d)  a1 a2 s (fun v s' => (v = none) ∧ Nq s0 s') := by
  unfold ub_163_13
  exact ⟨rfl, h⟩
theorem nl_163_0 {d : Nat} {s0 : yS}    {a1 : Int32} {a2 : Int32}  {s : yS} (h : Nq s0 s) : ub_163_0 (Par d)  a1 a2 s (fun v s' => (v = none) ∧ Nq s0 s') := by
  unfold ub_163_0
  constructor
  · intro _
    exact nl_163_13 h
  · intro _
    intro _
    intro _
    intro x1 _
    intro _
    intro x2 _
    intro s3 e1
    have h2 := nq_sf e1 h
    exact nl_163_13 h2
theorem nl_163 {d : Nat} {a1 : Int32} {a2 : Int32} {s : yS}  : Par d 163 [.ref 213, .int a1, .int a2] s (fun v s' => (v = none) ∧ Nq s s') := by
  cases d with
  | zero => exact Par_0
  | succ d => exact pb_163 (nl_163_0  ⟨rfl, rfl⟩)
theorem nl_164_20 {d : Nat} {s0 : yS}    {a1 : Int32} {t0 : Int32}  {s : yS} (h : Nq s0 s) : ub_164_20 (Par d)  a1 t0 s (fun v s' => (∃ x : Int32, v = some (.int x)) ∧ Nq s0 s') := by
  unfold ub_164_20
  intro _
  exact ⟨⟨_, rfl⟩, h⟩
theorem nl_164_19 {d : Nat} {s0 : yS}    {a1 : Int32}  {s : yS} (h : Nq s0 s) : ub_164_19 (Par d)  a1 s (fun v s' => (∃ x : Int32, v = some (.int x)) ∧ Nq s0 s') := by
  unfold ub_164_19
  exact nl_164_20 h
theorem nl_164_0 {d : Nat} {s0 : yS}    {a1 : Int32}  {s : yS} (h : Nq s0 s) : ub_164_0 (Par d)  a1 s (fun v s' => (∃ x : Int32, v = some (.int x)) ∧ Nq s0 s') := by
  unfold ub_164_0
  constructor
  · intro _
    exact nl_164_19 h
  · intro _
    intro _
    constructor
    · intro _
      exact nl_164_19 h
    · intro _
      intro _
      constructor
      · intro _
        exact nl_164_19 h
      · intro _
        exact nl_164_20 h
theorem nl_164 {d : Nat} {a1 : Int32} {s : yS}  : Par d 164 [.ref 213, .int a1] s (fun v s' => (∃ x : Int32, v = some (.int x)) ∧ Nq s s') := by
  cases d with
  | zero => exact Par_0
  | succ d => exact pb_164 (nl_164_0  ⟨rfl, rfl⟩)
theorem nl_165_20 {d : Nat} {s0 : yS}    {a1 : Int32} {t0 : Int32}  {s : yS} (h : Nq s0 s) : ub_165_20 (Par d)  a1 t0 s (fun v s' => (∃ x : Int32, v = some (.int x)) ∧ Nq s0 s') := by
  unfold ub_165_20
  intro _
  exact ⟨⟨_, rfl⟩, h⟩
theorem nl_165_19 {d : Nat} {s0 : yS}    {a1 : Int32}  {s : yS} (h : Nq s0 s) : ub_165_19 (Par d)  a1 s (fun v s' => (∃ x : Int32, v = some (.int x)) ∧ Nq s0 s') := by
  unfold ub_165_19
  exact nl_165_20 h
theorem nl_165_0 {d : Nat} {s0 : yS}    {a1 : Int32}  {s : yS} (h : Nq s0 s) : ub_165_0 (Par d)  a1 s (fun v s' => (∃ x : Int32, v = some (.int x)) ∧ Nq s0 s') := by
  unfold ub_165_0
  constructor
  · intro _
    exact nl_165_19 h
  · intro _
    intro _
    constructor
    · intro _
      exact nl_165_19 h
    · intro _
      intro _
      constructor
      · intro _
        exact nl_165_19 h
      · intro _
        exact nl_165_20 h
theorem nl_165 {d : Nat} {a1 : Int32} {s : yS}  : Par d 165 [.ref 213, .int a1] s (fun v s' => (∃ x : Int32, v = some (.int x)) ∧ Nq s s') := by
  cases d with
  | zero => exact Par_0
  | succ d => exact pb_165 (nl_165_0  ⟨rfl, rfl⟩)
theorem nl_166_20 {d : Nat} {s0 : yS}    {t0 : Int32}  {s : yS} (h : Nq s0 s) : ub_166_20 (Par d)  t0 s (fun v s' => (∃ x : Int32, v = some (.int x)) ∧ Nq s0 s') := by
  unfold ub_166_20
  intro _
  exact ⟨⟨_, rfl⟩, h⟩
theorem nl_166_19 {d : Nat} {s0 : yS}      {s : yS} (h : Nq s0 s) : ub_166_19 (Par d)   s (fun v s' => (∃ x : Int32, v = some (.int x)) ∧ Nq s0 s') := by
  unfold ub_166_19
  exact nl_166_20 h
theorem nl_166_0 {d : Nat} {s0 : yS}      {s : yS} (h : Nq s0 s) : ub_166_0 (Par d)   s (fun v s' => (∃ x : Int32, v = some (.int x)) ∧ Nq s0 s') := by
  unfold ub_166_0
  constructor
  · intro _
    exact nl_166_19 h
  · intro _
    intro _
    constructor
    · intro _
      exact nl_166_19 h
    · intro _
      intro _
      constructor
      · intro _
        exact nl_166_19 h
      · intro _
        exact nl_166_20 h
theorem nl_166 {d : Nat}  {s : yS}  : Par d 166 [.ref 213] s (fun v s' => (∃ x : Int32, v = some (.int x)) ∧ Nq s s') := by
  cases d with
  | zero => exact Par_0
  | succ d => exact pb_166 (nl_166_0  ⟨rfl, rfl⟩)
theorem nl_167_16 {d : Nat} {s0 : yS}    {a1 : Int32}  {s : yS} (h : Nq s0 s) : ub_167_16 (Par d)  a1 s (fun v s' => (v = none) ∧ Nq s0 s') := by
  unfold ub_167_16
  exact ⟨rfl, h⟩
theorem nl_167_0 {d : Nat} {s0 : yS}    {a1 : Int32}  {s : yS} (h : Nq s0 s) : ub_167_0 (Par d)  a1 s (fun v s' => (v = none) ∧ Nq s0 s') := by
  unfold ub_167_0
  refine Par.imp (nl_164) ?_
  rintro v2 s1 ⟨⟨x3, rfl⟩, h1⟩
  refine ⟨x3, rfl, ?_⟩
  have h3 := nq_tr h h1
  constructor
  · intro _
    refine Par.imp (nl_163) ?_
    rintro v5 s4 ⟨rfl, h4⟩
    refine ⟨rfl, ?_⟩
    have h6 := nq_tr h3 h4
    exact nl_167_16 h6
  · intro _
    intro _
    intro x6 _
    intro s7 e7
    have h8 := nq_sf e7 h3
    exact nl_167_16 h8
theorem nl_167 {d : Nat} {a1 : Int32} {s : yS}  : Par d 167 [.ref 213, .int a1] s (fun v s' => (v = none) ∧ Nq s s') := by
  cases d with
  | zero => exact Par_0
  | succ d => exact pb_167 (nl_167_0  ⟨rfl, rfl⟩)
theorem nl_168_12 {d : Nat} {s0 : yS}    {a1 : Int32} {a2 : Int32} {t1 : Int32} {t2 : Int32}  {s : yS} (h : Nq s0 s) : ub_168_12 (Par d)  a1 a2 t1 t2 s (fun v s' => (∃ x : Int32, v = some (.int x)) ∧ Nq s0 s') := by
  unfold ub_168_12
  intro _
  intro x1 _
  intro s2 e1
  have h2 := nq_sf e1 h
  intro _
  exact ⟨⟨_, rfl⟩, h2⟩
theorem nl_168_0 {d : Nat} {s0 : yS}    {a1 : Int32}  {s : yS} (h : Nq s0 s) : ub_168_0 (Par d)  a1 s (fun v s' => (∃ x : Int32, v = some (.int x)) ∧ Nq s0 s') := by
  unfold ub_168_0
  refine Par.imp (nl_164) ?_
  rintro v2 s1 ⟨⟨x3, rfl⟩, h1⟩
  refine ⟨x3, rfl, ?_⟩
  have h3 := nq_tr h h1
  constructor
  · intro _
    exact nl_168_12 h3
  · intro _
    exact nl_168_12 h3
theorem nl_168 {d : Nat} {a1 : Int32} {s : yS}  : Par d 168 [.ref 213, .int a1] s (fun v s' => (∃ x : Int32, v = some (.int x)) ∧ Nq s s') := by
  cases d with
  | zero => exact Par_0
  | succ d => exact pb_168 (nl_168_0  ⟨rfl, rfl⟩)
theorem nl_169_16 {d : Nat} {s0 : yS}    {a1 : Int32}  {s : yS} (h : Nq s0 s) : ub_169_16 (Par d)  a1 s (fun v s' => (v = none) ∧ Nq s0 s') := by
  unfold ub_169_16
  exact ⟨rfl, h⟩
theorem nl_169_0 {d : Nat} {s0 : yS}    {a1 : Int32}  {s : yS} (h : Nq s0 s) : ub_169_0 (Par d)  a1 s (fun v s' => (v = none) ∧ Nq s0 s') := by
  unfold ub_169_0
  refine Par.imp (nl_165) ?_
  rintro v2 s1 ⟨⟨x3, rfl⟩, h1⟩
  refine ⟨x3, rfl, ?_⟩
  have h3 := nq_tr h h1
  constructor
  · intro _
    refine Par.imp (nl_163) ?_
    rintro v5 s4 ⟨rfl, h4⟩
    refine ⟨rfl, ?_⟩
    have h6 := nq_tr h3 h4
    exact nl_169_16 h6
  · intro _
    intro _
    intro x6 _
    intro s7 e7
    have h8 := nq_sf e7 h3
    exact nl_169_16 h8
theorem nl_169 {d : Nat} {a1 : Int32} {s : yS}  : Par d 169 [.ref 213, .int a1] s (fun v s' => (v = none) ∧ Nq s s') := by
  cases d with
  | zero => exact Par_0
  | succ d => exact pb_169 (nl_169_0  ⟨rfl, rfl⟩)
theorem nl_170_8 {d : Nat} {s0 : yS}      {s : yS} (h : Nq s0 s) : ub_170_8 (Par d)   s (fun v s' => (∃ x : Int32, v = some (.int x)) ∧ Nq s0 s') := by
  unfold ub_170_8
  intro _
  intro x1 _
  intro s2 e1
  have h2 := nq_sf e1 h
  intro _
  intro x3 _
  exact ⟨⟨_, rfl⟩, h2⟩
theorem nl_170_0 {d : Nat} {s0 : yS}      {s : yS} (h : Nq s0 s) : ub_170_0 (Par d)   s (fun v s' => (∃ x : Int32, v = some (.int x)) ∧ Nq s0 s') := by
  unfold ub_170_0
  refine Par.imp (nl_166) ?_
  rintro v2 s1 ⟨⟨x3, rfl⟩, h1⟩
  refine ⟨x3, rfl, ?_⟩
  have h3 := nq_tr h h1
  constructor
  · intro _
    exact nl_170_8 h3
  · intro _
    refine Par.imp (nl_163) ?_
    rintro v5 s4 ⟨rfl, h4⟩
    refine ⟨rfl, ?_⟩
    have h6 := nq_tr h3 h4
    exact nl_170_8 h6
theorem nl_170 {d : Nat}  {s : yS}  : Par d 170 [.ref 213] s (fun v s' => (∃ x : Int32, v = some (.int x)) ∧ Nq s s') := by
  cases d with
  | zero => exact Par_0
  | succ d => exact pb_170 (nl_170_0  ⟨rfl, rfl⟩)
theorem nl_171_0 {d : Nat} {s0 : yS}    {a1 : Int32}  {s : yS} (h : Nq s0 s) : ub_171_0 (Par d)  a1 s (fun v s' => (∃ x : Int32, v = some (.int x)) ∧ Nq s0 s') := by
  unfold ub_171_0
  intro _
  intro s1 e1
  have h2 := nq_sa e1 h (by decide)
  intro _
  intro s2 e3
  have h4 := nq_sa e3 h2 (by decide)
  intro _
  intro s3 e5
  have h6 := nq_sa e5 h4 (by decide)
  intro _
  intro s4 e7
  have h8 := nq_sa e7 h6 (by decide)
  intro _
  intro s5 e9
  have h10 := nq_sa e9 h8 (by decide)
  intro _
  intro s6 e11
  have h12 := nq_sa e11 h10 (by decide)
  intro _
  intro s7 e13
  have h14 := nq_sa e13 h12 (by decide)
  intro _
  intro s8 e15
  have h16 := nq_sa e15 h14 (by decide)
  intro _
  intro s9 e17
  have h18 := nq_sa e17 h16 (by decide)
  intro _
  intro x10 _
  intro s11 e19
  have h20 := nq_sf e19 h18
  intro _
  intro x12 _
  exact ⟨⟨_, rfl⟩, h20⟩
theorem nl_171 {d : Nat} {a1 : Int32} {s : yS}  : Par d 171 [.ref 213, .int a1] s (fun v s' => (∃ x : Int32, v = some (.int x)) ∧ Nq s s') := by
  cases d with
  | zero => exact Par_0
  | succ d => exact pb_171 (nl_171_0  ⟨rfl, rfl⟩)
theorem nl_172_17 {d : Nat} {s0 : yS}    {a1 : Int32}  {s : yS} (h : Nq s0 s) : ub_172_17 (Par d)  a1 s (fun v s' => (v = none) ∧ Nq s0 s') := by
  unfold ub_172_17
  intro _
  intro x1 _
  intro s2 e1
  have h2 := nq_sf e1 h
  exact ⟨rfl, h2⟩
theorem nl_172_0 {d : Nat} {s0 : yS}    {a1 : Int32}  {s : yS} (h : Nq s0 s) : ub_172_0 (Par d)  a1 s (fun v s' => (v = none) ∧ Nq s0 s') := by
  unfold ub_172_0
  constructor
  · intro _
    constructor
    · intro _
      exact nl_172_17 h
    · intro _
      refine Par.imp (nl_163) ?_
      rintro v2 s1 ⟨rfl, h1⟩
      refine ⟨rfl, ?_⟩
      have h3 := nq_tr h h1
      exact nl_172_17 h3
  · intro _
    refine Par.imp (nl_163) ?_
    rintro v4 s3 ⟨rfl, h4⟩
    refine ⟨rfl, ?_⟩
    have h6 := nq_tr h h4
    exact nl_172_17 h6
theorem nl_172 {d : Nat} {a1 : Int32} {s : yS}  : Par d 172 [.ref 213, .int a1] s (fun v s' => (v = none) ∧ Nq s s') := by
  cases d with
  | zero => exact Par_0
  | succ d => exact pb_172 (nl_172_0  ⟨rfl, rfl⟩)
theorem nl_173_30 {d : Nat} {s0 : yS} (i173 : ∀ (s : yS), Par d 173 [.ref 213] s (fun v s' => (∃ x : Int32, v = some (.int x)) ∧ Nq s s')) (i174 : ∀ (s : yS), Par d 174 [.ref 213] s (fun v s' => (∃ x : Int32, v = some (.int x)) ∧ Nq s s'))   {a1 : Int32}  {s : yS} (h : Nq s0 s) : ub_173_30 (Par d)  a1 s (fun v s' => (∃ x : Int32, v = some (.int x)) ∧ Nq s0 s') := by
  unfold ub_173_30
  intro _
  intro x1 _
  intro s2 e1
  have h2 := nq_sf e1 h
  exact ⟨⟨_, rfl⟩, h2⟩
theorem nl_173_0 {d : Nat} {s0 : yS} (i173 : ∀ (s : yS), Par d 173 [.ref 213] s (fun v s' => (∃ x : Int32, v = some (.int x)) ∧ Nq s s')) (i174 : ∀ (s : yS), Par d 174 [.ref 213] s (fun v s' => (∃ x : Int32, v = some (.int x)) ∧ Nq s s'))     {s : yS} (h : Nq s0 s) : ub_173_0 (Par d)   s (fun v s' => (∃ x : Int32, v = some (.int x)) ∧ Nq s0 s') := by
  unfold ub_173_0
  refine Par.imp (nl_166) ?_
  rintro v2 s1 ⟨⟨x3, rfl⟩, h1⟩
  refine ⟨x3, rfl, ?_⟩
  have h3 := nq_tr h h1
  refine Par.imp (nl_172) ?_
  rintro v5 s4 ⟨rfl, h4⟩
  refine ⟨rfl, ?_⟩
  have h6 := nq_tr h3 h4
  refine Par.imp (nl_171) ?_
  rintro v7 s6 ⟨⟨x8, rfl⟩, h7⟩
  refine ⟨x8, rfl, ?_⟩
  have h9 := nq_tr h6 h7
  intro _
  intro x9 _
  intro s10 e10
  have h11 := nq_sf e10 h9
  refine Par.imp (nl_164) ?_
  rintro v12 s11 ⟨⟨x13, rfl⟩, h12⟩
  refine ⟨x13, rfl, ?_⟩
  have h14 := nq_tr h11 h12
  constructor
  · intro _
    exact nl_173_30 i173 i174 h14
  · intro _
    refine Par.imp (i174 _) ?_
    rintro v15 s14 ⟨⟨x16, rfl⟩, h15⟩
    refine ⟨x16, rfl, ?_⟩
    have h17 := nq_tr h14 h15
    intro _
    intro s17 e18
    have h19 := nq_sa e18 h17 (by decide)
    intro _
    intro s18 e20
    have h21 := nq_sa e20 h19 (by decide)
    exact nl_173_30 i173 i174 h21
theorem nl_174_25 {d : Nat} {s0 : yS} (i173 : ∀ (s : yS), Par d 173 [.ref 213] s (fun v s' => (∃ x : Int32, v = some (.int x)) ∧ Nq s s')) (i174 : ∀ (s : yS), Par d 174 [.ref 213] s (fun v s' => (∃ x : Int32, v = some (.int x)) ∧ Nq s s')) {R10 : Int32 → Int32 → Int32 → yS → Prop} (hR10 : ∀ (b0 : Int32) (b1 : Int32) (b2 : Int32) (f : yS), Nq s0 f → R10 b0 b1 b2 f) {a1 : Int32} {a2 : Int32} {a3 : Int32}  {s : yS} (h : Nq s0 s) : ub_174_25 (Par d) R10 a1 a2 a3 s (fun v s' => (∃ x : Int32, v = some (.int x)) ∧ Nq s0 s') := by
  unfold ub_174_25
  refine Par.imp (i173 _) ?_
  rintro v2 s1 ⟨⟨x3, rfl⟩, h1⟩
  refine ⟨x3, rfl, ?_⟩
  have h3 := nq_tr h h1
  intro _
  intro s4 e4
  have h5 := nq_sa e4 h3 (by decide)
  intro _
  intro x5 _
  exact hR10 _ _ _ _ h5
theorem nl_174_10 {d : Nat} {s0 : yS} (i173 : ∀ (s : yS), Par d 173 [.ref 213] s (fun v s' => (∃ x : Int32, v = some (.int x)) ∧ Nq s s')) (i174 : ∀ (s : yS), Par d 174 [.ref 213] s (fun v s' => (∃ x : Int32, v = some (.int x)) ∧ Nq s s')) {R10 : Int32 → Int32 → Int32 → yS → Prop} (hR10 : ∀ (b0 : Int32) (b1 : Int32) (b2 : Int32) (f : yS), Nq s0 f → R10 b0 b1 b2 f) {a1 : Int32} {a2 : Int32} {a3 : Int32}  {s : yS} (h : Nq s0 s) : ub_174_10 (Par d) R10 a1 a2 a3 s (fun v s' => (∃ x : Int32, v = some (.int x)) ∧ Nq s0 s') := by
  unfold ub_174_10
  refine Par.imp (nl_168) ?_
  rintro v2 s1 ⟨⟨x3, rfl⟩, h1⟩
  refine ⟨x3, rfl, ?_⟩
  have h3 := nq_tr h h1
  constructor
  · intro _
    refine Par.imp (nl_167) ?_
    rintro v5 s4 ⟨rfl, h4⟩
    refine ⟨rfl, ?_⟩
    have h6 := nq_tr h3 h4
    intro s6 e7
    have h8 := nq_sf e7 h6
    exact ⟨⟨_, rfl⟩, h8⟩
  · intro _
    constructor
    · intro _
      exact nl_174_25 i173 i174 hR10 h3
    · intro _
      refine Par.imp (nl_166) ?_
      rintro v8 s7 ⟨⟨x9, rfl⟩, h9⟩
      refine ⟨x9, rfl, ?_⟩
      have h11 := nq_tr h3 h9
      constructor
      · intro _
        exact nl_174_25 i173 i174 hR10 h11
      · intro _
        refine Par.imp (nl_163) ?_
        rintro v11 s10 ⟨rfl, h12⟩
        refine ⟨rfl, ?_⟩
        have h14 := nq_tr h11 h12
        exact nl_174_25 i173 i174 hR10 h14
theorem nm_174_10 {d : Nat} {s0 : yS} (i173 : ∀ (s : yS), Par d 173 [.ref 213] s (fun v s' => (∃ x : Int32, v = some (.int x)) ∧ Nq s s')) (i174 : ∀ (s : yS), Par d 174 [.ref 213] s (fun v s' => (∃ x : Int32, v = some (.int x)) ∧ Nq s s'))   {a1 : Int32} {a2 : Int32} {a3 : Int32}  {s : yS} (h : Nq s0 s) : ubl_174_10 (Par d)  a1 a2 a3 s (fun v s' => (∃ x : Int32, v = some (.int x)) ∧ Nq s0 s') :=
  ⟨fun z0 z1 z2 f => Nq s0 f, h, fun _ _ _ _ h => nl_174_10 i173 i174 (fun _ _ _ _ q => q)  h⟩
theorem nl_174_0 {d : Nat} {s0 : yS} (i173 : ∀ (s : yS), Par d 173 [.ref 213] s (fun v s' => (∃ x : Int32, v = some (.int x)) ∧ Nq s s')) (i174 : ∀ (s : yS), Par d 174 [.ref 213] s (fun v s' => (∃ x : Int32, v = some (.int x)) ∧ Nq s s'))     {s : yS} (h : Nq s0 s) : ub_174_0 (Par d)   s (fun v s' => (∃ x : Int32, v = some (.int x)) ∧ Nq s0 s') := by
  unfold ub_174_0
  refine Par.imp (nl_167) ?_
  rintro v2 s1 ⟨rfl, h1⟩
  refine ⟨rfl, ?_⟩
  have h3 := nq_tr h h1
  refine Par.imp (i173 _) ?_
  rintro v4 s3 ⟨⟨x5, rfl⟩, h4⟩
  refine ⟨x5, rfl, ?_⟩
  have h6 := nq_tr h3 h4
  exact nm_174_10 i173 i174 h6
theorem nls_173_174 : ∀ d : Nat, (∀  (s : yS), Par d 173 [.ref 213] s (fun v s' => (∃ x : Int32, v = some (.int x)) ∧ Nq s s')) ∧ (∀  (s : yS), Par d 174 [.ref 213] s (fun v s' => (∃ x : Int32, v = some (.int x)) ∧ Nq s s'))
  | 0 => ⟨fun  _ => Par_0, fun  _ => Par_0⟩
  | d + 1 => by
    have ih := nls_173_174 d
    obtain ⟨i173, i174⟩ := ih
    exact ⟨fun  s => pb_173 (nl_173_0 i173 i174 ⟨rfl, rfl⟩), fun  s => pb_174 (nl_174_0 i173 i174 ⟨rfl, rfl⟩)⟩
theorem nl_173 {d : Nat}  {s : yS} : Par d 173 [.ref 213] s (fun v s' => (∃ x : Int32, v = some (.int x)) ∧ Nq s s') := (nls_173_174 d).1  s
theorem nl_174 {d : Nat}  {s : yS} : Par d 174 [.ref 213] s (fun v s' => (∃ x : Int32, v = some (.int x)) ∧ Nq s s') := (nls_173_174 d).2  s
theorem nl_175_106 {d : Nat} {s0 : yS} (i175 : ∀ (s : yS), Par d 175 [.ref 213] s (fun v s' => (∃ x : Int32, v = some (.int x)) ∧ Nq s s')) (i176 : ∀ (s : yS), Par d 176 [.ref 213] s (fun v s' => (∃ x : Int32, v = some (.int x)) ∧ Nq s s')) (i177 : ∀ (a1 : Int32) (s : yS), Par d 177 [.ref 213, .int a1] s (fun v s' => (∃ x : Int32, v = some (.int x)) ∧ Nq s s')) {R94 : Int32 → Int32 → Int32 → yS → Prop} (hR94 : ∀ (b0 : Int32) (b1 : Int32) (b2 : Int32) (f : yS), Nq s0 f → R94 b0 b1 b2 f) {a1 : Int32} {a2 : Int32} {a3 : Int32}  {s : yS} (h : Nq s0 s) : ub_175_106 (Par d) R94 a1 a2 a3 s (fun v s' => (∃ x : Int32, v = some (.int x)) ∧ Nq s0 s') := by
  unfold ub_175_106
  intro _
  intro x1 _
  refine Par.imp (i177 _ _) ?_
  rintro v3 s2 ⟨⟨x4, rfl⟩, h1⟩
  refine ⟨x4, rfl, ?_⟩
  have h3 := nq_tr h h1
  exact hR94 _ _ _ _ h3
theorem nl_175_94 {d : Nat} {s0 : yS} (i175 : ∀ (s : yS), Par d 175 [.ref 213] s (fun v s' => (∃ x : Int32, v = some (.int x)) ∧ Nq s s')) (i176 : ∀ (s : yS), Par d 176 [.ref 213] s (fun v s' => (∃ x : Int32, v = some (.int x)) ∧ Nq s s')) (i177 : ∀ (a1 : Int32) (s : yS), Par d 177 [.ref 213, .int a1] s (fun v s' => (∃ x : Int32, v = some (.int x)) ∧ Nq s s')) {R94 : Int32 → Int32 → Int32 → yS → Prop} (hR94 : ∀ (b0 : Int32) (b1 : Int32) (b2 : Int32) (f : yS), Nq s0 f → R94 b0 b1 b2 f) {a1 : Int32} {a2 : Int32} {a3 : Int32}  {s : yS} (h : Nq s0 s) : ub_175_94 (Par d) R94 a1 a2 a3 s (fun v s' => (∃ x : Int32, v = some (.int x)) ∧ Nq s0 s') := by
  unfold ub_175_94
  refine Par.imp (nl_164) ?_
  rintro v2 s1 ⟨⟨x3, rfl⟩, h1⟩
  refine ⟨x3, rfl, ?_⟩
  have h3 := nq_tr h h1
  constructor
  · intro _
    intro _
    intro x4 _
    intro s5 e4
    have h5 := nq_sf e4 h3
    exact ⟨⟨_, rfl⟩, h5⟩
  · intro _
    constructor
    · intro _
      exact nl_175_106 i175 i176 i177 hR94 h3
    · intro _
      refine Par.imp (nl_163) ?_
      rintro v7 s6 ⟨rfl, h6⟩
      refine ⟨rfl, ?_⟩
      have h8 := nq_tr h3 h6
      exact nl_175_106 i175 i176 i177 hR94 h8
theorem nm_175_94 {d : Nat} {s0 : yS} (i175 : ∀ (s : yS), Par d 175 [.ref 213] s (fun v s' => (∃ x : Int32, v = some (.int x)) ∧ Nq s s')) (i176 : ∀ (s : yS), Par d 176 [.ref 213] s (fun v s' => (∃ x : Int32, v = some (.int x)) ∧ Nq s s')) (i177 : ∀ (a1 : Int32) (s : yS), Par d 177 [.ref 213, .int a1] s (fun v s' => (∃ x : Int32, v = some (.int x)) ∧ Nq s s'))   {a1 : Int32} {a2 : Int32} {a3 : Int32}  {s : yS} (h : Nq s0 s) : ubl_175_94 (Par d)  a1 a2 a3 s (fun v s' => (∃ x : Int32, v = some (.int x)) ∧ Nq s0 s') :=
  ⟨fun z0 z1 z2 f => Nq s0 f, h, fun _ _ _ _ h => nl_175_94 i175 i176 i177 (fun _ _ _ _ q => q)  h⟩
theorem nl_175_92 {d : Nat} {s0 : yS} (i175 : ∀ (s : yS), Par d 175 [.ref 213] s (fun v s' => (∃ x : Int32, v = some (.int x)) ∧ Nq s s')) (i176 : ∀ (s : yS), Par d 176 [.ref 213] s (fun v s' => (∃ x : Int32, v = some (.int x)) ∧ Nq s s')) (i177 : ∀ (a1 : Int32) (s : yS), Par d 177 [.ref 213, .int a1] s (fun v s' => (∃ x : Int32, v = some (.int x)) ∧ Nq s s'))   {a1 : Int32} {a2 : Int32}  {s : yS} (h : Nq s0 s) : ub_175_92 (Par d)  a1 a2 s (fun v s' => (∃ x : Int32, v = some (.int x)) ∧ Nq s0 s') := by
  unfold ub_175_92
  exact nm_175_94 i175 i176 i177 h
theorem nl_175_78 {d : Nat} {s0 : yS} (i175 : ∀ (s : yS), Par d 175 [.ref 213] s (fun v s' => (∃ x : Int32, v = some (.int x)) ∧ Nq s s')) (i176 : ∀ (s : yS), Par d 176 [.ref 213] s (fun v s' => (∃ x : Int32, v = some (.int x)) ∧ Nq s s')) (i177 : ∀ (a1 : Int32) (s : yS), Par d 177 [.ref 213, .int a1] s (fun v s' => (∃ x : Int32, v = some (.int x)) ∧ Nq s s'))   {a1 : Int32} {a2 : Int32} {a3 : Int32}  {s : yS} (h : Nq s0 s) : ub_175_78 (Par d)  a1 a2 a3 s (fun v s' => (∃ x : Int32, v = some (.int x)) ∧ Nq s0 s') := by
  unfold ub_175_78
  refine Par.imp (nl_167) ?_
  rintro v2 s1 ⟨rfl, h1⟩
  refine ⟨rfl, ?_⟩
  have h3 := nq_tr h h1
  exact nl_175_92 i175 i176 i177 h3
theorem nl_175_37 {d : Nat} {s0 : yS} (i175 : ∀ (s : yS), Par d 175 [.ref 213] s (fun v s' => (∃ x : Int32, v = some (.int x)) ∧ Nq s s')) (i176 : ∀ (s : yS), Par d 176 [.ref 213] s (fun v s' => (∃ x : Int32, v = some (.int x)) ∧ Nq s s')) (i177 : ∀ (a1 : Int32) (s : yS), Par d 177 [.ref 213, .int a1] s (fun v s' => (∃ x : Int32, v = some (.int x)) ∧ Nq s s'))   {t0 : Int32}  {s : yS} (h : Nq s0 s) : ub_175_37 (Par d)  t0 s (fun v s' => (∃ x : Int32, v = some (.int x)) ∧ Nq s0 s') := by
  unfold ub_175_37
  constructor
  · intro _
    refine Par.imp (nl_171) ?_
    rintro v2 s1 ⟨⟨x3, rfl⟩, h1⟩
    refine ⟨x3, rfl, ?_⟩
    have h3 := nq_tr h h1
    intro _
    intro x4 _
    intro s5 e4
    have h5 := nq_sf e4 h3
    exact nl_175_92 i175 i176 i177 h5
  · intro _
    refine Par.imp (nl_171) ?_
    rintro v7 s6 ⟨⟨x8, rfl⟩, h6⟩
    refine ⟨x8, rfl, ?_⟩
    have h8 := nq_tr h h6
    refine Par.imp (nl_173) ?_
    rintro v10 s9 ⟨⟨x11, rfl⟩, h9⟩
    refine ⟨x11, rfl, ?_⟩
    have h11 := nq_tr h8 h9
    intro _
    intro s12 e12
    have h13 := nq_sa e12 h11 (by decide)
    refine Par.imp (nl_167) ?_
    rintro v14 s13 ⟨rfl, h14⟩
    refine ⟨rfl, ?_⟩
    have h16 := nq_tr h13 h14
    intro _
    intro s15 e17
    have h18 := nq_sa e17 h16 (by decide)
    refine Par.imp (nl_164) ?_
    rintro v17 s16 ⟨⟨x18, rfl⟩, h19⟩
    refine ⟨x18, rfl, ?_⟩
    have h21 := nq_tr h18 h19
    constructor
    · intro _
      exact nl_175_78 i175 i176 i177 h21
    · intro _
      refine Par.imp (i176 _) ?_
      rintro v20 s19 ⟨⟨x21, rfl⟩, h22⟩
      refine ⟨x21, rfl, ?_⟩
      have h24 := nq_tr h21 h22
      intro _
      intro s22 e25
      have h26 := nq_sa e25 h24 (by decide)
      intro _
      intro s23 e27
      have h28 := nq_sa e27 h26 (by decide)
      exact nl_175_78 i175 i176 i177 h28
theorem nl_175_36 {d : Nat} {s0 : yS} (i175 : ∀ (s : yS), Par d 175 [.ref 213] s (fun v s' => (∃ x : Int32, v = some (.int x)) ∧ Nq s s')) (i176 : ∀ (s : yS), Par d 176 [.ref 213] s (fun v s' => (∃ x : Int32, v = some (.int x)) ∧ Nq s s')) (i177 : ∀ (a1 : Int32) (s : yS), Par d 177 [.ref 213, .int a1] s (fun v s' => (∃ x : Int32, v = some (.int x)) ∧ Nq s s'))     {s : yS} (h : Nq s0 s) : ub_175_36 (Par d)   s (fun v s' => (∃ x : Int32, v = some (.int x)) ∧ Nq s0 s') := by
  unfold ub_175_36
  exact nl_175_37 i175 i176 i177 h
theorem nl_175_34 {d : Nat} {s0 : yS} (i175 : ∀ (s : yS), Par d 175 [.ref 213] s (fun v s' => (∃ x : Int32, v = some (.int x)) ∧ Nq s s')) (i176 : ∀ (s : yS), Par d 176 [.ref 213] s (fun v s' => (∃ x : Int32, v = some (.int x)) ∧ Nq s s')) (i177 : ∀ (a1 : Int32) (s : yS), Par d 177 [.ref 213, .int a1] s (fun v s' => (∃ x : Int32, v = some (.int x)) ∧ Nq s s'))     {s : yS} (h : Nq s0 s) : ub_175_34 (Par d)   s (fun v s' => (∃ x : Int32, v = some (.int x)) ∧ Nq s0 s') := by
  unfold ub_175_34
  exact nl_175_37 i175 i176 i177 h
theorem nl_175_0 {d : Nat} {s0 : yS} (i175 : ∀ (s : yS), Par d 175 [.ref 213] s (fun v s' => (∃ x : Int32, v = some (.int x)) ∧ Nq s s')) (i176 : ∀ (s : yS), Par d 176 [.ref 213] s (fun v s' => (∃ x : Int32, v = some (.int x)) ∧ Nq s s')) (i177 : ∀ (a1 : Int32) (s : yS), Par d 177 [.ref 213, .int a1] s (fun v s' => (∃ x : Int32, v = some (.int x)) ∧ Nq s s'))     {s : yS} (h : Nq s0 s) : ub_175_0 (Par d)   s (fun v s' => (∃ x : Int32, v = some (.int x)) ∧ Nq s0 s') := by
  unfold ub_175_0
  refine Par.imp (nl_166) ?_
  rintro v2 s1 ⟨⟨x3, rfl⟩, h1⟩
  refine ⟨x3, rfl, ?_⟩
  have h3 := nq_tr h h1
  refine Par.imp (nl_172) ?_
  rintro v5 s4 ⟨rfl, h4⟩
  refine ⟨rfl, ?_⟩
  have h6 := nq_tr h3 h4
  constructor
  · intro _
    exact nl_175_36 i175 i176 i177 h6
  · intro _
    intro _
    intro x6 _
    intro _
    constructor
    · intro _
      exact nl_175_36 i175 i176 i177 h6
    · intro _
      intro _
      intro x7 _
      intro _
      constructor
      · intro _
        exact nl_175_34 i175 i176 i177 h6
      · intro _
        intro _
        intro x8 _
        intro _
        constructor
        · intro _
          exact nl_175_36 i175 i176 i177 h6
        · intro _
          exact nl_175_34 i175 i176 i177 h6
theorem nl_176_22 {d : Nat} {s0 : yS} (i175 : ∀ (s : yS), Par d 175 [.ref 213] s (fun v s' => (∃ x : Int32, v = some (.int x)) ∧ Nq s s')) (i176 : ∀ (s : yS), Par d 176 [.ref 213] s (fun v s' => (∃ x : Int32, v = some (.int x)) ∧ Nq s s')) (i177 : ∀ (a1 : Int32) (s : yS), Par d 177 [.ref 213, .int a1] s (fun v s' => (∃ x : Int32, v = some (.int x)) ∧ Nq s s')) {R7 : Int32 → Int32 → Int32 → yS → Prop} (hR7 : ∀ (b0 : Int32) (b1 : Int32) (b2 : Int32) (f : yS), Nq s0 f → R7 b0 b1 b2 f) {a1 : Int32} {a2 : Int32} {a3 : Int32}  {s : yS} (h : Nq s0 s) : ub_176_22 (Par d) R7 a1 a2 a3 s (fun v s' => (∃ x : Int32, v = some (.int x)) ∧ Nq s0 s') := by
  unfold ub_176_22
  refine Par.imp (i175 _) ?_
  rintro v2 s1 ⟨⟨x3, rfl⟩, h1⟩
  refine ⟨x3, rfl, ?_⟩
  have h3 := nq_tr h h1
  intro _
  intro s4 e4
  have h5 := nq_sa e4 h3 (by decide)
  intro _
  intro x5 _
  exact hR7 _ _ _ _ h5
theorem nl_176_7 {d : Nat} {s0 : yS} (i175 : ∀ (s : yS), Par d 175 [.ref 213] s (fun v s' => (∃ x : Int32, v = some (.int x)) ∧ Nq s s')) (i176 : ∀ (s : yS), Par d 176 [.ref 213] s (fun v s' => (∃ x : Int32, v = some (.int x)) ∧ Nq s s')) (i177 : ∀ (a1 : Int32) (s : yS), Par d 177 [.ref 213, .int a1] s (fun v s' => (∃ x : Int32, v = some (.int x)) ∧ Nq s s')) {R7 : Int32 → Int32 → Int32 → yS → Prop} (hR7 : ∀ (b0 : Int32) (b1 : Int32) (b2 : Int32) (f : yS), Nq s0 f → R7 b0 b1 b2 f) {a1 : Int32} {a2 : Int32} {a3 : Int32}  {s : yS} (h : Nq s0 s) : ub_176_7 (Par d) R7 a1 a2 a3 s (fun v s' => (∃ x : Int32, v = some (.int x)) ∧ Nq s0 s') := by
  unfold ub_176_7
  refine Par.imp (nl_168) ?_
  rintro v2 s1 ⟨⟨x3, rfl⟩, h1⟩
  refine ⟨x3, rfl, ?_⟩
  have h3 := nq_tr h h1
  constructor
  · intro _
    intro s4 e4
    have h5 := nq_sf e4 h3
    exact ⟨⟨_, rfl⟩, h5⟩
  · intro _
    constructor
    · intro _
      exact nl_176_22 i175 i176 i177 hR7 h3
    · intro _
      refine Par.imp (nl_166) ?_
      rintro v6 s5 ⟨⟨x7, rfl⟩, h6⟩
      refine ⟨x7, rfl, ?_⟩
      have h8 := nq_tr h3 h6
      constructor
      · intro _
        exact nl_176_22 i175 i176 i177 hR7 h8
      · intro _
        refine Par.imp (nl_163) ?_
        rintro v9 s8 ⟨rfl, h9⟩
        refine ⟨rfl, ?_⟩
        have h11 := nq_tr h8 h9
        exact nl_176_22 i175 i176 i177 hR7 h11
theorem nm_176_7 {d : Nat} {s0 : yS} (i175 : ∀ (s : yS), Par d 175 [.ref 213] s (fun v s' => (∃ x : Int32, v = some (.int x)) ∧ Nq s s')) (i176 : ∀ (s : yS), Par d 176 [.ref 213] s (fun v s' => (∃ x : Int32, v = some (.int x)) ∧ Nq s s')) (i177 : ∀ (a1 : Int32) (s : yS), Par d 177 [.ref 213, .int a1] s (fun v s' => (∃ x : Int32, v = some (.int x)) ∧ Nq s s'))   {a1 : Int32} {a2 : Int32} {a3 : Int32}  {s : yS} (h : Nq s0 s) : ubl_176_7 (Par d)  a1 a2 a3 s (fun v s' => (∃ x : Int32, v = some (.int x)) ∧ Nq s0 s') :=
  ⟨fun z0 z1 z2 f => Nq s0 f, h, fun _ _ _ _ h => nl_176_7 i175 i176 i177 (fun _ _ _ _ q => q)  h⟩
theorem nl_176_0 {d : Nat} {s0 : yS} (i175 : ∀ (s : yS), Par d 175 [.ref 213] s (fun v s' => (∃ x : Int32, v = some (.int x)) ∧ Nq s s')) (i176 : ∀ (s : yS), Par d 176 [.ref 213] s (fun v s' => (∃ x : Int32, v = some (.int x)) ∧ Nq s s')) (i177 : ∀ (a1 : Int32) (s : yS), Par d 177 [.ref 213, .int a1] s (fun v s' => (∃ x : Int32, v = some (.int x)) ∧ Nq s s'))     {s : yS} (h : Nq s0 s) : ub_176_0 (Par d)   s (fun v s' => (∃ x : Int32, v = some (.int x)) ∧ Nq s0 s') := by
  unfold ub_176_0
  refine Par.imp (i175 _) ?_
  rintro v2 s1 ⟨⟨x3, rfl⟩, h1⟩
  refine ⟨x3, rfl, ?_⟩
  have h3 := nq_tr h h1
  exact nm_176_7 i175 i176 i177 h3
theorem nl_177_160 {d : Nat} {s0 : yS} (i175 : ∀ (s : yS), Par d 175 [.ref 213] s (fun v s' => (∃ x : Int32, v = some (.int x)) ∧ Nq s s')) (i176 : ∀ (s : yS), Par d 176 [.ref 213] s (fun v s' => (∃ x : Int32, v = some (.int x)) ∧ Nq s s')) (i177 : ∀ (a1 : Int32) (s : yS), Par d 177 [.ref 213, .int a1] s (fun v s' => (∃ x : Int32, v = some (.int x)) ∧ Nq s s'))   {a1 : Int32} {a2 : Int32} {a3 : Int32} {a4 : Int32}  {s : yS} (h : Nq s0 s) : ub_177_160 (Par d)  a1 a2 a3 a4 s (fun v s' => (∃ x : Int32, v = some (.int x)) ∧ Nq s0 s') := by
  unfold ub_177_160
  exact ⟨⟨_, rfl⟩, h⟩
theorem nl_177_157 {d : Nat} {s0 : yS} (i175 : ∀ (s : yS), Par d 175 [.ref 213] s (fun v s' => (∃ x : Int32, v = some (.int x)) ∧ Nq s s')) (i176 : ∀ (s : yS), Par d 176 [.ref 213] s (fun v s' => (∃ x : Int32, v = some (.int x)) ∧ Nq s s')) (i177 : ∀ (a1 : Int32) (s : yS), Par d 177 [.ref 213, .int a1] s (fun v s' => (∃ x : Int32, v = some (.int x)) ∧ Nq s s'))   {a1 : Int32} {a2 : Int32} {a3 : Int32} {a4 : Int32}  {s : yS} (h : Nq s0 s) : ub_177_157 (Par d)  a1 a2 a3 a4 s (fun v s' => (∃ x : Int32, v = some (.int x)) ∧ Nq s0 s') := by
  unfold ub_177_157
  refine Par.imp (nl_167) ?_
  rintro v2 s1 ⟨rfl, h1⟩
  refine ⟨rfl, ?_⟩
  have h3 := nq_tr h h1
  exact nl_177_160 i175 i176 i177 h3
theorem nl_177_136 {d : Nat} {s0 : yS} (i175 : ∀ (s : yS), Par d 175 [.ref 213] s (fun v s' => (∃ x : Int32, v = some (.int x)) ∧ Nq s s')) (i176 : ∀ (s : yS), Par d 176 [.ref 213] s (fun v s' => (∃ x : Int32, v = some (.int x)) ∧ Nq s s')) (i177 : ∀ (a1 : Int32) (s : yS), Par d 177 [.ref 213, .int a1] s (fun v s' => (∃ x : Int32, v = some (.int x)) ∧ Nq s s'))   {a1 : Int32} {a2 : Int32} {a3 : Int32} {a4 : Int32}  {s : yS} (h : Nq s0 s) : ub_177_136 (Par d)  a1 a2 a3 a4 s (fun v s' => (∃ x : Int32, v = some (.int x)) ∧ Nq s0 s') := by
  unfold ub_177_136
  refine Par.imp (nl_167) ?_
  rintro v2 s1 ⟨rfl, h1⟩
  refine ⟨rfl, ?_⟩
  have h3 := nq_tr h h1
  refine Par.imp (nl_164) ?_
  rintro v4 s3 ⟨⟨x5, rfl⟩, h4⟩
  refine ⟨x5, rfl, ?_⟩
  have h6 := nq_tr h3 h4
  constructor
  · intro _
    exact nl_177_157 i175 i176 i177 h6
  · intro _
    refine Par.imp (i176 _) ?_
    rintro v7 s6 ⟨⟨x8, rfl⟩, h7⟩
    refine ⟨x8, rfl, ?_⟩
    have h9 := nq_tr h6 h7
    intro _
    intro s9 e10
    have h11 := nq_sa e10 h9 (by decide)
    intro _
    intro s10 e12
    have h13 := nq_sa e12 h11 (by decide)
    exact nl_177_157 i175 i176 i177 h13
theorem nl_177_93 {d : Nat} {s0 : yS} (i175 : ∀ (s : yS), Par d 175 [.ref 213] s (fun v s' => (∃ x : Int32, v = some (.int x)) ∧ Nq s s')) (i176 : ∀ (s : yS), Par d 176 [.ref 213] s (fun v s' => (∃ x : Int32, v = some (.int x)) ∧ Nq s s')) (i177 : ∀ (a1 : Int32) (s : yS), Par d 177 [.ref 213, .int a1] s (fun v s' => (∃ x : Int32, v = some (.int x)) ∧ Nq s s'))   {a1 : Int32} {a2 : Int32} {a3 : Int32} {t1 : Int32}  {s : yS} (h : Nq s0 s) : ub_177_93 (Par d)  a1 a2 a3 t1 s (fun v s' => (∃ x : Int32, v = some (.int x)) ∧ Nq s0 s') := by
  unfold ub_177_93
  refine Par.imp (nl_171) ?_
  rintro v2 s1 ⟨⟨x3, rfl⟩, h1⟩
  refine ⟨x3, rfl, ?_⟩
  have h3 := nq_tr h h1
  intro _
  intro s4 e4
  have h5 := nq_sa e4 h3 (by decide)
  intro _
  intro s5 e6
  have h7 := nq_sa e6 h5 (by decide)
  intro _
  intro s6 e8
  have h9 := nq_sa e8 h7 (by decide)
  intro _
  intro x7 _
  intro s8 e10
  have h11 := nq_sf e10 h9
  constructor
  · intro _
    exact nl_177_160 i175 i176 i177 h11
  · intro _
    refine Par.imp (nl_164) ?_
    rintro v10 s9 ⟨⟨x11, rfl⟩, h12⟩
    refine ⟨x11, rfl, ?_⟩
    have h14 := nq_tr h11 h12
    constructor
    · intro _
      exact nl_177_136 i175 i176 i177 h14
    · intro _
      refine Par.imp (nl_174) ?_
      rintro v13 s12 ⟨⟨x14, rfl⟩, h15⟩
      refine ⟨x14, rfl, ?_⟩
      have h17 := nq_tr h14 h15
      intro _
      intro s15 e18
      have h19 := nq_sa e18 h17 (by decide)
      intro _
      intro s16 e20
      have h21 := nq_sa e20 h19 (by decide)
      exact nl_177_136 i175 i176 i177 h21
theorem nl_177_86 {d : Nat} {s0 : yS} (i175 : ∀ (s : yS), Par d 175 [.ref 213] s (fun v s' => (∃ x : Int32, v = some (.int x)) ∧ Nq s s')) (i176 : ∀ (s : yS), Par d 176 [.ref 213] s (fun v s' => (∃ x : Int32, v = some (.int x)) ∧ Nq s s')) (i177 : ∀ (a1 : Int32) (s : yS), Par d 177 [.ref 213, .int a1] s (fun v s' => (∃ x : Int32, v = some (.int x)) ∧ Nq s s'))   {a1 : Int32} {a2 : Int32} {t0 : Int32}  {s : yS} (h : Nq s0 s) : ub_177_86 (Par d)  a1 a2 t0 s (fun v s' => (∃ x : Int32, v = some (.int x)) ∧ Nq s0 s') := by
  unfold ub_177_86
  constructor
  · intro _
    exact nl_177_93 i175 i176 i177 h
  · intro _
    exact nl_177_93 i175 i176 i177 h
theorem nl_177_85 {d : Nat} {s0 : yS} (i175 : ∀ (s : yS), Par d 175 [.ref 213] s (fun v s' => (∃ x : Int32, v = some (.int x)) ∧ Nq s s')) (i176 : ∀ (s : yS), Par d 176 [.ref 213] s (fun v s' => (∃ x : Int32, v = some (.int x)) ∧ Nq s s')) (i177 : ∀ (a1 : Int32) (s : yS), Par d 177 [.ref 213, .int a1] s (fun v s' => (∃ x : Int32, v = some (.int x)) ∧ Nq s s'))   {a1 : Int32} {a2 : Int32}  {s : yS} (h : Nq s0 s) : ub_177_85 (Par d)  a1 a2 s (fun v s' => (∃ x : Int32, v = some (.int x)) ∧ Nq s0 s') := by
  unfold ub_177_85
  exact nl_177_86 i175 i176 i177 h
theorem nl_177_83 {d : Nat} {s0 : yS} (i175 : ∀ (s : yS), Par d 175 [.ref 213] s (fun v s' => (∃ x : Int32, v = some (.int x)) ∧ Nq s s')) (i176 : ∀ (s : yS), Par d 176 [.ref 213] s (fun v s' => (∃ x : Int32, v = some (.int x)) ∧ Nq s s')) (i177 : ∀ (a1 : Int32) (s : yS), Par d 177 [.ref 213, .int a1] s (fun v s' => (∃ x : Int32, v = some (.int x)) ∧ Nq s s'))   {a1 : Int32} {a2 : Int32}  {s : yS} (h : Nq s0 s) : ub_177_83 (Par d)  a1 a2 s (fun v s' => (∃ x : Int32, v = some (.int x)) ∧ Nq s0 s') := by
  unfold ub_177_83
  exact nl_177_86 i175 i176 i177 h
theorem nl_177_53 {d : Nat} {s0 : yS} (i175 : ∀ (s : yS), Par d 175 [.ref 213] s (fun v s' => (∃ x : Int32, v = some (.int x)) ∧ Nq s s')) (i176 : ∀ (s : yS), Par d 176 [.ref 213] s (fun v s' => (∃ x : Int32, v = some (.int x)) ∧ Nq s s')) (i177 : ∀ (a1 : Int32) (s : yS), Par d 177 [.ref 213, .int a1] s (fun v s' => (∃ x : Int32, v = some (.int x)) ∧ Nq s s'))   {a1 : Int32} {a2 : Int32}  {s : yS} (h : Nq s0 s) : ub_177_53 (Par d)  a1 a2 s (fun v s' => (∃ x : Int32, v = some (.int x)) ∧ Nq s0 s') := by
  unfold ub_177_53
  constructor
  · intro _
    exact nl_177_85 i175 i176 i177 h
  · intro _
    intro _
    intro x1 _
    intro _
    constructor
    · intro _
      exact nl_177_85 i175 i176 i177 h
    · intro _
      intro _
      intro x2 _
      intro _
      constructor
      · intro _
        exact nl_177_83 i175 i176 i177 h
      · intro _
        intro _
        intro x3 _
        intro _
        constructor
        · intro _
          exact nl_177_85 i175 i176 i177 h
        · intro _
          exact nl_177_83 i175 i176 i177 h
theorem nl_177_0 {d : Nat} {s0 : yS} (i175 : ∀ (s : yS), Par d 175 [.ref 213] s (fun v s' => (∃ x : Int32, v = some (.int x)) ∧ Nq s s')) (i176 : ∀ (s : yS), Par d 176 [.ref 213] s (fun v s' => (∃ x : Int32, v = some (.int x)) ∧ Nq s s')) (i177 : ∀ (a1 : Int32) (s : yS), Par d 177 [.ref 213, .int a1] s (fun v s' => (∃ x : Int32, v = some (.int x)) ∧ Nq s s'))   {a1 : Int32}  {s : yS} (h : Nq s0 s) : ub_177_0 (Par d)  a1 s (fun v s' => (∃ x : Int32, v = some (.int x)) ∧ Nq s0 s') := by
  unfold ub_177_0
  intro _
  intro x1 _
  intro s2 e1
  have h2 := nq_sf e1 h
  refine Par.imp (nl_168) ?_
  rintro v4 s3 ⟨⟨x5, rfl⟩, h3⟩
  refine ⟨x5, rfl, ?_⟩
  have h5 := nq_tr h2 h3
  constructor
  · intro _
    refine Par.imp (nl_166) ?_
    rintro v7 s6 ⟨⟨x8, rfl⟩, h6⟩
    refine ⟨x8, rfl, ?_⟩
    have h8 := nq_tr h5 h6
    constructor
    · intro _
      exact nl_177_53 i175 i176 i177 h8
    · intro _
      refine Par.imp (nl_163) ?_
      rintro v10 s9 ⟨rfl, h9⟩
      refine ⟨rfl, ?_⟩
      have h11 := nq_tr h8 h9
      exact nl_177_53 i175 i176 i177 h11
  · intro _
    refine Par.imp (nl_171) ?_
    rintro v12 s11 ⟨⟨x13, rfl⟩, h12⟩
    refine ⟨x13, rfl, ?_⟩
    have h14 := nq_tr h5 h12
    intro _
    intro s14 e15
    have h16 := nq_sa e15 h14 (by decide)
    intro _
    intro s15 e17
    have h18 := nq_sa e17 h16 (by decide)
    intro _
    intro s16 e19
    have h20 := nq_sa e19 h18 (by decide)
    refine Par.imp (nl_173) ?_
    rintro v18 s17 ⟨⟨x19, rfl⟩, h21⟩
    refine ⟨x19, rfl, ?_⟩
    have h23 := nq_tr h20 h21
    intro _
    intro s20 e24
    have h25 := nq_sa e24 h23 (by decide)
    refine Par.imp (nl_167) ?_
    rintro v22 s21 ⟨rfl, h26⟩
    refine ⟨rfl, ?_⟩
    have h28 := nq_tr h25 h26
    exact ⟨⟨_, rfl⟩, h28⟩
theorem nls_175_176 : ∀ d : Nat, (∀  (s : yS), Par d 175 [.ref 213] s (fun v s' => (∃ x : Int32, v = some (.int x)) ∧ Nq s s')) ∧ (∀  (s : yS), Par d 176 [.ref 213] s (fun v s' => (∃ x : Int32, v = some (.int x)) ∧ Nq s s')) ∧ (∀ (a1 : Int32) (s : yS), Par d 177 [.ref 213, .int a1] s (fun v s' => (∃ x : Int32, v = some (.int x)) ∧ Nq s s'))
  | 0 => ⟨fun  _ => Par_0, fun  _ => Par_0, fun _ _ => Par_0⟩
  | d + 1 => by
    have ih := nls_175_176 d
    obtain ⟨i175, i176, i177⟩ := ih
    exact ⟨fun  s => pb_175 (nl_175_0 i175 i176 i177 ⟨rfl, rfl⟩), fun  s => pb_176 (nl_176_0 i175 i176 i177 ⟨rfl, rfl⟩), fun _ s => pb_177 (nl_177_0 i175 i176 i177 ⟨rfl, rfl⟩)⟩
theorem nl_175 {d : Nat}  {s : yS} : Par d 175 [.ref 213] s (fun v s' => (∃ x : Int32, v = some (.int x)) ∧ Nq s s') := (nls_175_176 d).1  s
theorem nl_176 {d : Nat}  {s : yS} : Par d 176 [.ref 213] s (fun v s' => (∃ x : Int32, v = some (.int x)) ∧ Nq s s') := (nls_175_176 d).2.1  s
theorem nl_177 {d : Nat} {a1 : Int32} {s : yS} : Par d 177 [.ref 213, .int a1] s (fun v s' => (∃ x : Int32, v = some (.int x)) ∧ Nq s s') := (nls_175_176 d).2.2 a1 s
theorem nl_178_31 {d : Nat} {s0 : yS}    {a1 : Int32} {a2 : Int32} {t0 : Int32}  {s : yS} (h : Nq s0 s) : ub_178_31 (Par d)  a1 a2 t0 s (fun v s' => (∃ x : Int32, v = some (.int x)) ∧ Nq s0 s') := by
  unfold ub_178_31
  exact ⟨⟨_, rfl⟩, h⟩
theorem nl_178_2 {d : Nat} {s0 : yS}  {R2 : Int32 → Int32 → yS → Prop} (hR2 : ∀ (b0 : Int32) (b1 : Int32) (f : yS), Nq s0 f → R2 b0 b1 f) {a1 : Int32} {a2 : Int32}  {s : yS} (h : Nq s0 s) : ub_178_2 (Par d) R2 a1 a2 s (fun v s' => (∃ x : Int32, v = some (.int x)) ∧ Nq s0 s') := by
  unfold ub_178_2
  intro _
  constructor
  · intro _
    intro _
    constructor
    · intro _
      intro _
      exact nl_178_31 h
    · intro _
      intro _
      intro _
      exact nl_178_31 h
  · intro _
    intro _
    exact hR2 _ _ _ h
theorem nm_178_2 {d : Nat} {s0 : yS}    {a1 : Int32} {a2 : Int32}  {s : yS} (h : Nq s0 s) : ubl_178_2 (Par d)  a1 a2 s (fun v s' => (∃ x : Int32, v = some (.int x)) ∧ Nq s0 s') :=
  ⟨fun z0 z1 f => Nq s0 f, h, fun _ _ _ h => nl_178_2 (fun _ _ _ q => q)  h⟩
theorem nl_178_0 {d : Nat} {s0 : yS}    {a1 : Int32}  {s : yS} (h : Nq s0 s) : ub_178_0 (Par d)  a1 s (fun v s' => (∃ x : Int32, v = some (.int x)) ∧ Nq s0 s') := by
  unfold ub_178_0
  exact nm_178_2 h
theorem nl_178 {d : Nat} {a1 : Int32} {s : yS}  : Par d 178 [.ref 213, .int a1] s (fun v s' => (∃ x : Int32, v = some (.int x)) ∧ Nq s s') := by
  cases d with
  | zero => exact Par_0
  | succ d => exact pb_178 (nl_178_0  ⟨rfl, rfl⟩)
theorem nl_181_58 {d : Nat} {s0 : yS}    {a1 : Nat} {a2 : Nat} {a3 : Int32} {a4 : Int32} {a5 : Int32} (pa1 : yQ7 a1) (pa2 : yQ7 a2) {s : yS} (h : Nq s0 s) : ub_181_58 (Par d)  a1 a2 a3 a4 a5 s (fun v s' => (∃ x : Int32, v = some (.int x)) ∧ Nq s0 s') := by
  unfold ub_181_58
  refine Par.imp (nl_167) ?_
  rintro v2 s1 ⟨rfl, h1⟩
  refine ⟨rfl, ?_⟩
  have h3 := nq_tr h h1
  exact ⟨⟨_, rfl⟩, h3⟩
theorem nl_181_53 {d : Nat} {s0 : yS}  {R7 : Nat → Nat → Int32 → Int32 → Int32 → yS → Prop} (hR7 : ∀ (b0 : Nat) (b1 : Nat) (b2 : Int32) (b3 : Int32) (b4 : Int32) (f : yS), yQ7 b0 → yQ7 b1 → Nq s0 f → R7 b0 b1 b2 b3 b4 f) {a1 : Nat} {a2 : Nat} {a3 : Int32} {a4 : Int32} {a5 : Int32} {a6 : Int32} {a7 : Int32} (pa1 : yQ7 a1) (pa2 : yQ7 a2) {s : yS} (h : Nq s0 s) : ub_181_53 (Par d) R7 a1 a2 a3 a4 a5 a6 a7 s (fun v s' => (∃ x : Int32, v = some (.int x)) ∧ Nq s0 s') := by
  unfold ub_181_53
  refine Par.imp (nl_168) ?_
  rintro v2 s1 ⟨⟨x3, rfl⟩, h1⟩
  refine ⟨x3, rfl, ?_⟩
  have h3 := nq_tr h h1
  exact hR7 _ _ _ _ _ _ pa1 pa2 h3
theorem nl_181_36 {d : Nat} {s0 : yS}  {R7 : Nat → Nat → Int32 → Int32 → Int32 → yS → Prop} (hR7 : ∀ (b0 : Nat) (b1 : Nat) (b2 : Int32) (b3 : Int32) (b4 : Int32) (f : yS), yQ7 b0 → yQ7 b1 → Nq s0 f → R7 b0 b1 b2 b3 b4 f) {a1 : Nat} {a2 : Nat} {a3 : Int32} {a4 : Int32} {a5 : Int32} {a6 : Int32} {t0 : Int32} (pa1 : yQ7 a1) (pa2 : yQ7 a2) {s : yS} (h : Nq s0 s) : ub_181_36 (Par d) R7 a1 a2 a3 a4 a5 a6 t0 s (fun v s' => (∃ x : Int32, v = some (.int x)) ∧ Nq s0 s') := by
  unfold ub_181_36
  constructor
  · intro _
    exact nl_181_53 hR7 pa1 pa2 h
  · intro _
    intro _
    intro x1 _
    obtain ⟨n1, e2⟩ := yq_ok pa1
    refine ⟨n1, e2, ?_⟩
    intro _
    intro s2 e3
    have h4 := nq_sa e3 h (yq_ne pa1)
    intro _
    intro x3 _
    obtain ⟨n5, e6⟩ := yq_ok pa2
    refine ⟨n5, e6, ?_⟩
    intro _
    intro s4 e7
    have h8 := nq_sa e7 h4 (yq_ne pa2)
    intro _
    intro x5 _
    exact nl_181_53 hR7 pa1 pa2 h8
theorem nl_181_23 {d : Nat} {s0 : yS}  {R7 : Nat → Nat → Int32 → Int32 → Int32 → yS → Prop} (hR7 : ∀ (b0 : Nat) (b1 : Nat) (b2 : Int32) (b3 : Int32) (b4 : Int32) (f : yS), yQ7 b0 → yQ7 b1 → Nq s0 f → R7 b0 b1 b2 b3 b4 f) {a1 : Nat} {a2 : Nat} {a3 : Int32} {a4 : Int32} {a5 : Int32} (pa1 : yQ7 a1) (pa2 : yQ7 a2) {s : yS} (h : Nq s0 s) : ub_181_23 (Par d) R7 a1 a2 a3 a4 a5 s (fun v s' => (∃ x : Int32, v = some (.int x)) ∧ Nq s0 s') := by
  unfold ub_181_23
  refine Par.imp (nl_170) ?_
  rintro v2 s1 ⟨⟨x3, rfl⟩, h1⟩
  refine ⟨x3, rfl, ?_⟩
  have h3 := nq_tr h h1
  intro s4 e4
  have h5 := nq_sf e4 h3
  constructor
  · intro _
    exact nl_181_36 hR7 pa1 pa2 h5
  · intro _
    refine Par.imp (nl_173) ?_
    rintro v6 s5 ⟨⟨x7, rfl⟩, h6⟩
    refine ⟨x7, rfl, ?_⟩
    have h8 := nq_tr h5 h6
    exact nl_181_36 hR7 pa1 pa2 h8
theorem nl_181_7 {d : Nat} {s0 : yS}  {R7 : Nat → Nat → Int32 → Int32 → Int32 → yS → Prop} (hR7 : ∀ (b0 : Nat) (b1 : Nat) (b2 : Int32) (b3 : Int32) (b4 : Int32) (f : yS), yQ7 b0 → yQ7 b1 → Nq s0 f → R7 b0 b1 b2 b3 b4 f) {a1 : Nat} {a2 : Nat} {a3 : Int32} {a4 : Int32} {a5 : Int32} (pa1 : yQ7 a1) (pa2 : yQ7 a2) {s : yS} (h : Nq s0 s) : ub_181_7 (Par d) R7 a1 a2 a3 a4 a5 s (fun v s' => (∃ x : Int32, v = some (.int x)) ∧ Nq s0 s') := by
  unfold ub_181_7
  constructor
  · intro _
    exact nl_181_58 pa1 pa2 h
  · intro _
    constructor
    · intro _
      exact nl_181_58 pa1 pa2 h
    · intro _
      constructor
      · intro _
        exact nl_181_23 hR7 pa1 pa2 h
      · intro _
        refine Par.imp (nl_166) ?_
        rintro v2 s1 ⟨⟨x3, rfl⟩, h1⟩
        refine ⟨x3, rfl, ?_⟩
        have h3 := nq_tr h h1
        constructor
        · intro _
          exact nl_181_23 hR7 pa1 pa2 h3
        · intro _
          refine Par.imp (nl_163) ?_
          rintro v5 s4 ⟨rfl, h4⟩
          refine ⟨rfl, ?_⟩
          have h6 := nq_tr h3 h4
          exact nl_181_23 hR7 pa1 pa2 h6
theorem nm_181_7 {d : Nat} {s0 : yS}    {a1 : Nat} {a2 : Nat} {a3 : Int32} {a4 : Int32} {a5 : Int32} (pa1 : yQ7 a1) (pa2 : yQ7 a2) {s : yS} (h : Nq s0 s) : ubl_181_7 (Par d)  a1 a2 a3 a4 a5 s (fun v s' => (∃ x : Int32, v = some (.int x)) ∧ Nq s0 s') :=
  ⟨fun z0 z1 z2 z3 z4 f => yQ7 z0 ∧ yQ7 z1 ∧ Nq s0 f, ⟨pa1, pa2, h⟩, fun _ _ _ _ _ _ ⟨w0, w1, h⟩ => nl_181_7 (fun _ _ _ _ _ _ w0 w1 q => ⟨w0, w1, q⟩) w0 w1 h⟩
theorem nl_181_0 {d : Nat} {s0 : yS}    {a1 : Nat} {a2 : Nat} {a3 : Int32} (pa1 : yQ7 a1) (pa2 : yQ7 a2) {s : yS} (h : Nq s0 s) : ub_181_0 (Par d)  a1 a2 a3 s (fun v s' => (∃ x : Int32, v = some (.int x)) ∧ Nq s0 s') := by
  unfold ub_181_0
  refine Par.imp (nl_167) ?_
  rintro v2 s1 ⟨rfl, h1⟩
  refine ⟨rfl, ?_⟩
  have h3 := nq_tr h h1
  exact nm_181_7 pa1 pa2 h3
theorem nl_181 {d : Nat} {a1 : Nat} {a2 : Nat} {a3 : Int32} {s : yS} (pa1 : yQ7 a1) (pa2 : yQ7 a2) : Par d 181 [.ref 213, .ref a1, .ref a2, .int a3] s (fun v s' => (∃ x : Int32, v = some (.int x)) ∧ Nq s s') := by
  cases d with
  | zero => exact Par_0
  | succ d => exact pb_181 (nl_181_0 pa1 pa2 ⟨rfl, rfl⟩)
theorem nl_182_66 {d : Nat} {s0 : yS}    {a1 : Int32} {a2 : Int32} {a3 : Int32}  {s : yS} (h : Nq s0 s) : ub_182_66 (Par d)  a1 a2 a3 s (fun v s' => (v = none) ∧ Nq s0 s') := by
  unfold ub_182_66
  exact ⟨rfl, h⟩
theorem nl_182_27 {d : Nat} {s0 : yS}    {a1 : Int32} {a2 : Int32} {t0 : Int32}  {s : yS} (h : Nq s0 s) : ub_182_27 (Par d)  a1 a2 t0 s (fun v s' => (v = none) ∧ Nq s0 s') := by
  unfold ub_182_27
  refine Par.imp (nl_167) ?_
  rintro v2 s1 ⟨rfl, h1⟩
  refine ⟨rfl, ?_⟩
  have h3 := nq_tr h h1
  constructor
  · intro _
    exact nl_182_66 h3
  · intro _
    intro _
    intro x3 _
    intro _
    intro _
    intro x4 _
    intro _
    intro s5 e4
    have h5 := nq_sa e4 h3 (by decide)
    intro _
    intro x6 _
    intro _
    intro _
    intro x7 _
    intro _
    intro s8 e6
    have h7 := nq_sa e6 h5 (by decide)
    intro _
    intro _
    intro x9 _
    intro _
    intro s10 e8
    have h9 := nq_sa e8 h7 (by decide)
    exact nl_182_66 h9
theorem nl_182_14 {d : Nat} {s0 : yS}    {a1 : Int32}  {s : yS} (h : Nq s0 s) : ub_182_14 (Par d)  a1 s (fun v s' => (v = none) ∧ Nq s0 s') := by
  unfold ub_182_14
  refine Par.imp (nl_170) ?_
  rintro v2 s1 ⟨⟨x3, rfl⟩, h1⟩
  refine ⟨x3, rfl, ?_⟩
  have h3 := nq_tr h h1
  intro s4 e4
  have h5 := nq_sf e4 h3
  constructor
  · intro _
    exact nl_182_27 h5
  · intro _
    refine Par.imp (nl_173) ?_
    rintro v6 s5 ⟨⟨x7, rfl⟩, h6⟩
    refine ⟨x7, rfl, ?_⟩
    have h8 := nq_tr h5 h6
    exact nl_182_27 h8
theorem nl_182_0 {d : Nat} {s0 : yS}    {a1 : Int32}  {s : yS} (h : Nq s0 s) : ub_182_0 (Par d)  a1 s (fun v s' => (v = none) ∧ Nq s0 s') := by
  unfold ub_182_0
  intro _
  constructor
  · intro _
    exact nl_182_14 h
  · intro _
    refine Par.imp (nl_166) ?_
    rintro v2 s1 ⟨⟨x3, rfl⟩, h1⟩
    refine ⟨x3, rfl, ?_⟩
    have h3 := nq_tr h h1
    constructor
    · intro _
      exact nl_182_14 h3
    · intro _
      refine Par.imp (nl_163) ?_
      rintro v5 s4 ⟨rfl, h4⟩
      refine ⟨rfl, ?_⟩
      have h6 := nq_tr h3 h4
      exact nl_182_14 h6
theorem nl_182 {d : Nat} {a1 : Int32} {s : yS}  : Par d 182 [.ref 213, .int a1] s (fun v s' => (v = none) ∧ Nq s s') := by
  cases d with
  | zero => exact Par_0
  | succ d => exact pb_182 (nl_182_0  ⟨rfl, rfl⟩)
theorem nl_183_140 {d : Nat} {s0 : yS}    {a1 : Int32} {a2 : Int32} {t1 : Int32} {t2 : Int32}  {s : yS} (h : Nq s0 s) : ub_183_140 (Par d)  a1 a2 t1 t2 s (fun v s' => (v = none) ∧ Nq s0 s') := by
  unfold ub_183_140
  intro _
  intro s1 e1
  have h2 := nq_sa e1 h (by decide)
  intro _
  intro x2 _
  intro s3 e3
  have h4 := nq_sf e3 h2
  exact ⟨rfl, h4⟩
theorem nl_183_124 {d : Nat} {s0 : yS}    {a1 : Int32} {a2 : Int32}  {s : yS} (h : Nq s0 s) : ub_183_124 (Par d)  a1 a2 s (fun v s' => (v = none) ∧ Nq s0 s') := by
  unfold ub_183_124
  refine Par.imp (nl_167) ?_
  rintro v2 s1 ⟨rfl, h1⟩
  refine ⟨rfl, ?_⟩
  have h3 := nq_tr h h1
  intro s3 e4
  have h5 := nq_sf e4 h3
  constructor
  · intro _
    exact nl_183_140 h5
  · intro _
    refine Par.imp (nl_173) ?_
    rintro v5 s4 ⟨⟨x6, rfl⟩, h6⟩
    refine ⟨x6, rfl, ?_⟩
    have h8 := nq_tr h5 h6
    exact nl_183_140 h8
theorem nl_183_119 {d : Nat} {s0 : yS}  {R51 : Int32 → Int32 → yS → Prop} (hR51 : ∀ (b0 : Int32) (b1 : Int32) (f : yS), Nq s0 f → R51 b0 b1 f) {a1 : Int32} {a2 : Int32} {a3 : Int32} {a4 : Int32}  {s : yS} (h : Nq s0 s) : ub_183_119 (Par d) R51 a1 a2 a3 a4 s (fun v s' => (v = none) ∧ Nq s0 s') := by
  unfold ub_183_119
  refine Par.imp (nl_168) ?_
  rintro v2 s1 ⟨⟨x3, rfl⟩, h1⟩
  refine ⟨x3, rfl, ?_⟩
  have h3 := nq_tr h h1
  exact hR51 _ _ _ h3
theorem nl_183_83 {d : Nat} {s0 : yS}  {R51 : Int32 → Int32 → yS → Prop} (hR51 : ∀ (b0 : Int32) (b1 : Int32) (f : yS), Nq s0 f → R51 b0 b1 f) {a1 : Int32} {a2 : Int32} {a3 : Int32} {t0 : Int32}  {s : yS} (h : Nq s0 s) : ub_183_83 (Par d) R51 a1 a2 a3 t0 s (fun v s' => (v = none) ∧ Nq s0 s') := by
  unfold ub_183_83
  constructor
  · intro _
    exact nl_183_119 hR51 h
  · intro _
    intro _
    intro x1 _
    intro _
    intro _
    intro x2 _
    intro _
    intro s3 e1
    have h2 := nq_sa e1 h (by decide)
    intro _
    intro x4 _
    intro _
    intro _
    intro x5 _
    intro _
    intro s6 e3
    have h4 := nq_sa e3 h2 (by decide)
    intro _
    intro _
    intro x7 _
    intro _
    intro s8 e5
    have h6 := nq_sa e5 h4 (by decide)
    exact nl_183_119 hR51 h6
theorem nl_183_70 {d : Nat} {s0 : yS}  {R51 : Int32 → Int32 → yS → Prop} (hR51 : ∀ (b0 : Int32) (b1 : Int32) (f : yS), Nq s0 f → R51 b0 b1 f) {a1 : Int32} {a2 : Int32}  {s : yS} (h : Nq s0 s) : ub_183_70 (Par d) R51 a1 a2 s (fun v s' => (v = none) ∧ Nq s0 s') := by
  unfold ub_183_70
  refine Par.imp (nl_170) ?_
  rintro v2 s1 ⟨⟨x3, rfl⟩, h1⟩
  refine ⟨x3, rfl, ?_⟩
  have h3 := nq_tr h h1
  intro s4 e4
  have h5 := nq_sf e4 h3
  constructor
  · intro _
    exact nl_183_83 hR51 h5
  · intro _
    refine Par.imp (nl_173) ?_
    rintro v6 s5 ⟨⟨x7, rfl⟩, h6⟩
    refine ⟨x7, rfl, ?_⟩
    have h8 := nq_tr h5 h6
    exact nl_183_83 hR51 h8
theorem nl_183_51 {d : Nat} {s0 : yS}  {R51 : Int32 → Int32 → yS → Prop} (hR51 : ∀ (b0 : Int32) (b1 : Int32) (f : yS), Nq s0 f → R51 b0 b1 f) {a1 : Int32} {a2 : Int32}  {s : yS} (h : Nq s0 s) : ub_183_51 (Par d) R51 a1 a2 s (fun v s' => (v = none) ∧ Nq s0 s') := by
  unfold ub_183_51
  constructor
  · intro _
    exact nl_183_124 h
  · intro _
    constructor
    · intro _
      exact nl_183_124 h
    · intro _
      intro _
      constructor
      · intro _
        exact nl_183_70 hR51 h
      · intro _
        refine Par.imp (nl_166) ?_
        rintro v2 s1 ⟨⟨x3, rfl⟩, h1⟩
        refine ⟨x3, rfl, ?_⟩
        have h3 := nq_tr h h1
        constructor
        · intro _
          exact nl_183_70 hR51 h3
        · intro _
          refine Par.imp (nl_163) ?_
          rintro v5 s4 ⟨rfl, h4⟩
          refine ⟨rfl, ?_⟩
          have h6 := nq_tr h3 h4
          exact nl_183_70 hR51 h6
theorem nm_183_51 {d : Nat} {s0 : yS}    {a1 : Int32} {a2 : Int32}  {s : yS} (h : Nq s0 s) : ubl_183_51 (Par d)  a1 a2 s (fun v s' => (v = none) ∧ Nq s0 s') :=
  ⟨fun z0 z1 f => Nq s0 f, h, fun _ _ _ h => nl_183_51 (fun _ _ _ q => q)  h⟩
theorem nl_183_50 {d : Nat} {s0 : yS}    {a1 : Int32} {t0 : Int32}  {s : yS} (h : Nq s0 s) : ub_183_50 (Par d)  a1 t0 s (fun v s' => (v = none) ∧ Nq s0 s') := by
  unfold ub_183_50
  exact nm_183_51 h
theorem nl_183_40 {d : Nat} {s0 : yS}    {a1 : Int32}  {s : yS} (h : Nq s0 s) : ub_183_40 (Par d)  a1 s (fun v s' => (v = none) ∧ Nq s0 s') := by
  unfold ub_183_40
  refine Par.imp (nl_167) ?_
  rintro v2 s1 ⟨rfl, h1⟩
  refine ⟨rfl, ?_⟩
  have h3 := nq_tr h h1
  refine Par.imp (nl_164) ?_
  rintro v4 s3 ⟨⟨x5, rfl⟩, h4⟩
  refine ⟨x5, rfl, ?_⟩
  have h6 := nq_tr h3 h4
  constructor
  · intro _
    exact nl_183_50 h6
  · intro _
    exact nl_183_50 h6
theorem nl_183_0 {d : Nat} {s0 : yS}      {s : yS} (h : Nq s0 s) : ub_183_0 (Par d)   s (fun v s' => (v = none) ∧ Nq s0 s') := by
  unfold ub_183_0
  constructor
  · intro _
    refine Par.imp (nl_170) ?_
    rintro v2 s1 ⟨⟨x3, rfl⟩, h1⟩
    refine ⟨x3, rfl, ?_⟩
    have h3 := nq_tr h h1
    intro _
    intro s4 e4
    have h5 := nq_sa e4 h3 (by decide)
    intro _
    intro s5 e6
    have h7 := nq_sa e6 h5 (by decide)
    intro _
    intro s6 e8
    have h9 := nq_sa e8 h7 (by decide)
    refine Par.imp (nl_164) ?_
    rintro v8 s7 ⟨⟨x9, rfl⟩, h10⟩
    refine ⟨x9, rfl, ?_⟩
    have h12 := nq_tr h9 h10
    constructor
    · intro _
      exact nl_183_40 h12
    · intro _
      intro _
      intro x10 _
      refine Par.imp (nl_181 (by unfold yQ7; decide) (by unfold yQ7; decide)) ?_
      rintro v12 s11 ⟨⟨x13, rfl⟩, h13⟩
      refine ⟨x13, rfl, ?_⟩
      have h15 := nq_tr h12 h13
      intro _
      intro s14 e16
      have h17 := nq_sa e16 h15 (by decide)
      exact nl_183_40 h17
  · intro _
    exact ⟨rfl, h⟩
theorem nl_183 {d : Nat}  {s : yS}  : Par d 183 [.ref 213] s (fun v s' => (v = none) ∧ Nq s s') := by
  cases d with
  | zero => exact Par_0
  | succ d => exact pb_183 (nl_183_0  ⟨rfl, rfl⟩)
theorem nl_180_145 {d : Nat} {s0 : yS}    {a1 : Int32}  {s : yS} (h : Nq s0 s) : ub_180_145 (Par d)  a1 s (fun v s' => (v = none) ∧ Nq s0 s') := by
  unfold ub_180_145
  refine Par.imp (nl_167) ?_
  rintro v2 s1 ⟨rfl, h1⟩
  refine ⟨rfl, ?_⟩
  have h3 := nq_tr h h1
  intro _
  intro x3 _
  intro _
  intro _
  intro x4 _
  intro _
  intro _
  intro s5 e4
  have h5 := nq_sa e4 h3 (by decide)
  intro _
  intro _
  intro x6 _
  intro _
  intro s7 e6
  have h7 := nq_sa e6 h5 (by decide)
  intro _
  intro _
  intro x8 _
  intro _
  intro s9 e8
  have h9 := nq_sa e8 h7 (by decide)
  exact ⟨rfl, h9⟩
theorem nl_180_131 {d : Nat} {s0 : yS}  {R99 : Int32 → yS → Prop} (hR99 : ∀ (b0 : Int32) (f : yS), Nq s0 f → R99 b0 f) {a1 : Int32}  {s : yS} (h : Nq s0 s) : ub_180_131 (Par d) R99 a1 s (fun v s' => (v = none) ∧ Nq s0 s') := by
  unfold ub_180_131
  refine Par.imp (nl_183) ?_
  rintro v2 s1 ⟨rfl, h1⟩
  refine ⟨rfl, ?_⟩
  have h3 := nq_tr h h1
  refine Par.imp (nl_167) ?_
  rintro v4 s3 ⟨rfl, h4⟩
  refine ⟨rfl, ?_⟩
  have h6 := nq_tr h3 h4
  intro _
  intro _
  intro x5 _
  intro _
  intro s6 e7
  have h8 := nq_sa e7 h6 (by decide)
  exact hR99 _ _ h8
theorem nl_180_128 {d : Nat} {s0 : yS}  {R99 : Int32 → yS → Prop} (hR99 : ∀ (b0 : Int32) (f : yS), Nq s0 f → R99 b0 f) {a1 : Int32} {t1 : Int32}  {s : yS} (h : Nq s0 s) : ub_180_128 (Par d) R99 a1 t1 s (fun v s' => (v = none) ∧ Nq s0 s') := by
  unfold ub_180_128
  refine Par.imp (nl_163) ?_
  rintro v2 s1 ⟨rfl, h1⟩
  refine ⟨rfl, ?_⟩
  have h3 := nq_tr h h1
  exact nl_180_131 hR99 h3
theorem nl_180_99 {d : Nat} {s0 : yS}  {R99 : Int32 → yS → Prop} (hR99 : ∀ (b0 : Int32) (f : yS), Nq s0 f → R99 b0 f) {a1 : Int32}  {s : yS} (h : Nq s0 s) : ub_180_99 (Par d) R99 a1 s (fun v s' => (v = none) ∧ Nq s0 s') := by
  unfold ub_180_99
  constructor
  · intro _
    exact nl_180_145 h
  · intro _
    refine Par.imp (nl_164) ?_
    rintro v2 s1 ⟨⟨x3, rfl⟩, h1⟩
    refine ⟨x3, rfl, ?_⟩
    have h3 := nq_tr h h1
    constructor
    · intro _
      exact nl_180_145 h3
    · intro _
      intro _
      constructor
      · intro _
        intro _
        constructor
        · intro _
          exact nl_180_131 hR99 h3
        · intro _
          refine Par.imp (nl_166) ?_
          rintro v5 s4 ⟨⟨x6, rfl⟩, h4⟩
          refine ⟨x6, rfl, ?_⟩
          have h6 := nq_tr h3 h4
          constructor
          · intro _
            exact nl_180_128 hR99 h6
          · intro _
            exact nl_180_128 hR99 h6
      · intro _
        refine Par.imp (nl_182) ?_
        rintro v8 s7 ⟨rfl, h7⟩
        refine ⟨rfl, ?_⟩
        have h9 := nq_tr h3 h7
        exact hR99 _ _ h9
theorem nm_180_99 {d : Nat} {s0 : yS}    {a1 : Int32}  {s : yS} (h : Nq s0 s) : ubl_180_99 (Par d)  a1 s (fun v s' => (v = none) ∧ Nq s0 s') :=
  ⟨fun z0 f => Nq s0 f, h, fun _ _ h => nl_180_99 (fun _ _ q => q)  h⟩
theorem nl_180_96 {d : Nat} {s0 : yS}    {a1 : Int32}  {s : yS} (h : Nq s0 s) : ub_180_96 (Par d)  a1 s (fun v s' => (v = none) ∧ Nq s0 s') := by
  unfold ub_180_96
  refine Par.imp (nl_167) ?_
  rintro v2 s1 ⟨rfl, h1⟩
  refine ⟨rfl, ?_⟩
  have h3 := nq_tr h h1
  exact nm_180_99 h3
theorem nl_180_74 {d : Nat} {s0 : yS}    {a1 : Int32}  {s : yS} (h : Nq s0 s) : ub_180_74 (Par d)  a1 s (fun v s' => (v = none) ∧ Nq s0 s') := by
  unfold ub_180_74
  refine Par.imp (nl_165) ?_
  rintro v2 s1 ⟨⟨x3, rfl⟩, h1⟩
  refine ⟨x3, rfl, ?_⟩
  have h3 := nq_tr h h1
  intro _
  intro s4 e4
  have h5 := nq_sa e4 h3 (by decide)
  intro _
  constructor
  · intro _
    refine Par.imp (nl_169) ?_
    rintro v6 s5 ⟨rfl, h6⟩
    refine ⟨rfl, ?_⟩
    have h8 := nq_tr h5 h6
    exact nl_180_96 h8
  · intro _
    intro _
    intro x7 _
    intro s8 e9
    have h10 := nq_sf e9 h5
    exact nl_180_96 h10
theorem nl_180_0 {d : Nat} {s0 : yS}      {s : yS} (h : Nq s0 s) : ub_180_0 (Par d)   s (fun v s' => (v = none) ∧ Nq s0 s') := by
  unfold ub_180_0
  intro _
  intro x1 _
  intro _
  intro _
  intro x2 _
  intro _
  constructor
  · intro _
    intro _
    intro x3 _
    intro s4 e1
    have h2 := nq_sf e1 h
    refine Par.imp (nl_170) ?_
    rintro v6 s5 ⟨⟨x7, rfl⟩, h3⟩
    refine ⟨x7, rfl, ?_⟩
    have h5 := nq_tr h2 h3
    intro _
    intro s8 e6
    have h7 := nq_sa e6 h5 (by decide)
    intro _
    intro s9 e8
    have h9 := nq_sa e8 h7 (by decide)
    intro _
    intro s10 e10
    have h11 := nq_sa e10 h9 (by decide)
    intro _
    intro s11 e12
    have h13 := nq_sa e12 h11 (by decide)
    intro _
    intro s12 e14
    have h15 := nq_sa e14 h13 (by decide)
    refine Par.imp (nl_164) ?_
    rintro v14 s13 ⟨⟨x15, rfl⟩, h16⟩
    refine ⟨x15, rfl, ?_⟩
    have h18 := nq_tr h15 h16
    constructor
    · intro _
      exact nl_180_74 h18
    · intro _
      intro _
      intro x16 _
      refine Par.imp (nl_181 (by unfold yQ7; decide) (by unfold yQ7; decide)) ?_
      rintro v18 s17 ⟨⟨x19, rfl⟩, h19⟩
      refine ⟨x19, rfl, ?_⟩
      have h21 := nq_tr h18 h19
      intro _
      intro s20 e22
      have h23 := nq_sa e22 h21 (by decide)
      exact nl_180_74 h23
  · intro _
    refine Par.imp (nl_163) ?_
    rintro v22 s21 ⟨rfl, h24⟩
    refine ⟨rfl, ?_⟩
    have h26 := nq_tr h h24
    exact ⟨rfl, h26⟩
theorem nl_180 {d : Nat}  {s : yS}  : Par d 180 [.ref 213] s (fun v s' => (v = none) ∧ Nq s s') := by
  cases d with
  | zero => exact Par_0
  | succ d => exact pb_180 (nl_180_0  ⟨rfl, rfl⟩)
theorem nl_184_133 {d : Nat} {s0 : yS}    {a1 : Int32} {t1 : Int32} {t2 : Int32}  {s : yS} (h : Nq s0 s) : ub_184_133 (Par d)  a1 t1 t2 s (fun v s' => (v = none) ∧ Nq s0 s') := by
  unfold ub_184_133
  intro _
  intro s1 e1
  have h2 := nq_sa e1 h (by decide)
  refine Par.imp (nl_167) ?_
  rintro v3 s2 ⟨rfl, h3⟩
  refine ⟨rfl, ?_⟩
  have h5 := nq_tr h2 h3
  intro _
  intro x4 _
  intro _
  intro _
  intro x5 _
  intro _
  intro _
  intro x6 _
  intro _
  intro s7 e6
  have h7 := nq_sa e6 h5 (by decide)
  intro _
  intro _
  intro x8 _
  intro _
  intro s9 e8
  have h9 := nq_sa e8 h7 (by decide)
  intro _
  intro _
  intro x10 _
  intro _
  intro s11 e10
  have h11 := nq_sa e10 h9 (by decide)
  exact ⟨rfl, h11⟩
theorem nl_184_103 {d : Nat} {s0 : yS}    {a1 : Int32}  {s : yS} (h : Nq s0 s) : ub_184_103 (Par d)  a1 s (fun v s' => (v = none) ∧ Nq s0 s') := by
  unfold ub_184_103
  refine Par.imp (nl_167) ?_
  rintro v2 s1 ⟨rfl, h1⟩
  refine ⟨rfl, ?_⟩
  have h3 := nq_tr h h1
  intro _
  intro s3 e4
  have h5 := nq_sa e4 h3 (by decide)
  refine Par.imp (nl_183) ?_
  rintro v5 s4 ⟨rfl, h6⟩
  refine ⟨rfl, ?_⟩
  have h8 := nq_tr h5 h6
  refine Par.imp (nl_167) ?_
  rintro v7 s6 ⟨rfl, h9⟩
  refine ⟨rfl, ?_⟩
  have h11 := nq_tr h8 h9
  refine Par.imp (nl_169) ?_
  rintro v9 s8 ⟨rfl, h12⟩
  refine ⟨rfl, ?_⟩
  have h14 := nq_tr h11 h12
  intro s10 e15
  have h16 := nq_sf e15 h14
  constructor
  · intro _
    exact nl_184_133 h16
  · intro _
    refine Par.imp (nl_175) ?_
    rintro v12 s11 ⟨⟨x13, rfl⟩, h17⟩
    refine ⟨x13, rfl, ?_⟩
    have h19 := nq_tr h16 h17
    exact nl_184_133 h19
theorem nl_184_88 {d : Nat} {s0 : yS}  {R70 : Int32 → yS → Prop} (hR70 : ∀ (b0 : Int32) (f : yS), Nq s0 f → R70 b0 f) {a1 : Int32}  {s : yS} (h : Nq s0 s) : ub_184_88 (Par d) R70 a1 s (fun v s' => (v = none) ∧ Nq s0 s') := by
  unfold ub_184_88
  refine Par.imp (nl_170) ?_
  rintro v2 s1 ⟨⟨x3, rfl⟩, h1⟩
  refine ⟨x3, rfl, ?_⟩
  have h3 := nq_tr h h1
  intro _
  intro _
  intro x4 _
  intro _
  intro s5 e4
  have h5 := nq_sa e4 h3 (by decide)
  exact hR70 _ _ h5
theorem nl_184_70 {d : Nat} {s0 : yS}  {R70 : Int32 → yS → Prop} (hR70 : ∀ (b0 : Int32) (f : yS), Nq s0 f → R70 b0 f) {a1 : Int32}  {s : yS} (h : Nq s0 s) : ub_184_70 (Par d) R70 a1 s (fun v s' => (v = none) ∧ Nq s0 s') := by
  unfold ub_184_70
  refine Par.imp (nl_168) ?_
  rintro v2 s1 ⟨⟨x3, rfl⟩, h1⟩
  refine ⟨x3, rfl, ?_⟩
  have h3 := nq_tr h h1
  constructor
  · intro _
    refine Par.imp (nl_167) ?_
    rintro v5 s4 ⟨rfl, h4⟩
    refine ⟨rfl, ?_⟩
    have h6 := nq_tr h3 h4
    exact nl_184_103 h6
  · intro _
    intro _
    constructor
    · intro _
      exact nl_184_88 hR70 h3
    · intro _
      refine Par.imp (nl_166) ?_
      rintro v7 s6 ⟨⟨x8, rfl⟩, h7⟩
      refine ⟨x8, rfl, ?_⟩
      have h9 := nq_tr h3 h7
      constructor
      · intro _
        exact nl_184_88 hR70 h9
      · intro _
        refine Par.imp (nl_163) ?_
        rintro v10 s9 ⟨rfl, h10⟩
        refine ⟨rfl, ?_⟩
        have h12 := nq_tr h9 h10
        exact nl_184_88 hR70 h12
theorem nm_184_70 {d : Nat} {s0 : yS}    {a1 : Int32}  {s : yS} (h : Nq s0 s) : ubl_184_70 (Par d)  a1 s (fun v s' => (v = none) ∧ Nq s0 s') :=
  ⟨fun z0 f => Nq s0 f, h, fun _ _ h => nl_184_70 (fun _ _ q => q)  h⟩
theorem nl_184_0 {d : Nat} {s0 : yS}      {s : yS} (h : Nq s0 s) : ub_184_0 (Par d)   s (fun v s' => (v = none) ∧ Nq s0 s') := by
  unfold ub_184_0
  intro _
  intro x1 _
  intro _
  intro _
  intro x2 _
  intro _
  constructor
  · intro _
    intro _
    intro x3 _
    intro s4 e1
    have h2 := nq_sf e1 h
    refine Par.imp (nl_167) ?_
    rintro v6 s5 ⟨rfl, h3⟩
    refine ⟨rfl, ?_⟩
    have h5 := nq_tr h2 h3
    refine Par.imp (nl_170) ?_
    rintro v8 s7 ⟨⟨x9, rfl⟩, h6⟩
    refine ⟨x9, rfl, ?_⟩
    have h8 := nq_tr h5 h6
    intro _
    intro s10 e9
    have h10 := nq_sa e9 h8 (by decide)
    refine Par.imp (nl_170) ?_
    rintro v12 s11 ⟨⟨x13, rfl⟩, h11⟩
    refine ⟨x13, rfl, ?_⟩
    have h13 := nq_tr h10 h11
    intro _
    intro s14 e14
    have h15 := nq_sa e14 h13 (by decide)
    intro _
    intro s15 e16
    have h17 := nq_sa e16 h15 (by decide)
    intro _
    intro s16 e18
    have h19 := nq_sa e18 h17 (by decide)
    refine Par.imp (nl_168) ?_
    rintro v18 s17 ⟨⟨x19, rfl⟩, h20⟩
    refine ⟨x19, rfl, ?_⟩
    have h22 := nq_tr h19 h20
    constructor
    · intro _
      exact nl_184_103 h22
    · intro _
      refine Par.imp (nl_170) ?_
      rintro v21 s20 ⟨⟨x22, rfl⟩, h23⟩
      refine ⟨x22, rfl, ?_⟩
      have h25 := nq_tr h22 h23
      intro _
      intro s23 e26
      have h27 := nq_sa e26 h25 (by decide)
      intro _
      intro s24 e28
      have h29 := nq_sa e28 h27 (by decide)
      exact nm_184_70 h29
  · intro _
    refine Par.imp (nl_163) ?_
    rintro v26 s25 ⟨rfl, h30⟩
    refine ⟨rfl, ?_⟩
    have h32 := nq_tr h h30
    exact ⟨rfl, h32⟩
theorem nl_184 {d : Nat}  {s : yS}  : Par d 184 [.ref 213] s (fun v s' => (v = none) ∧ Nq s s') := by
  cases d with
  | zero => exact Par_0
  | succ d => exact pb_184 (nl_184_0  ⟨rfl, rfl⟩)
theorem nl_179_62 {d : Nat} {s0 : yS}      {s : yS} (h : Nq s0 s) : ub_179_62 (Par d)   s (fun v s' => (v = none) ∧ Nq s0 s') := by
  unfold ub_179_62
  exact ⟨rfl, h⟩
theorem nl_179_44 {d : Nat} {s0 : yS}    {t1 : Int32} {t2 : Int32}  {s : yS} (h : Nq s0 s) : ub_179_44 (Par d)  t1 t2 s (fun v s' => (v = none) ∧ Nq s0 s') := by
  unfold ub_179_44
  intro _
  intro s1 e1
  have h2 := nq_sa e1 h (by decide)
  refine Par.imp (nl_167) ?_
  rintro v3 s2 ⟨rfl, h3⟩
  refine ⟨rfl, ?_⟩
  have h5 := nq_tr h2 h3
  constructor
  · intro _
    exact nl_179_62 h5
  · intro _
    intro _
    constructor
    · intro _
      exact nl_179_62 h5
    · intro _
      refine Par.imp (nl_163) ?_
      rintro v5 s4 ⟨rfl, h6⟩
      refine ⟨rfl, ?_⟩
      have h8 := nq_tr h5 h6
      exact nl_179_62 h8
theorem nl_179_27 {d : Nat} {s0 : yS}      {s : yS} (h : Nq s0 s) : ub_179_27 (Par d)   s (fun v s' => (v = none) ∧ Nq s0 s') := by
  unfold ub_179_27
  refine Par.imp (nl_169) ?_
  rintro v2 s1 ⟨rfl, h1⟩
  refine ⟨rfl, ?_⟩
  have h3 := nq_tr h h1
  intro s3 e4
  have h5 := nq_sf e4 h3
  constructor
  · intro _
    exact nl_179_44 h5
  · intro _
    refine Par.imp (nl_175) ?_
    rintro v5 s4 ⟨⟨x6, rfl⟩, h6⟩
    refine ⟨x6, rfl, ?_⟩
    have h8 := nq_tr h5 h6
    exact nl_179_44 h8
theorem nl_179_0 {d : Nat} {s0 : yS}  {R0 : yS → Prop} (hR0 : ∀ (f : yS), Nq s0 f → R0 f)   {s : yS} (h : Nq s0 s) : ub_179_0 (Par d) R0  s (fun v s' => (v = none) ∧ Nq s0 s') := by
  unfold ub_179_0
  constructor
  · intro _
    exact nl_179_27 h
  · intro _
    refine Par.imp (nl_165) ?_
    rintro v2 s1 ⟨⟨x3, rfl⟩, h1⟩
    refine ⟨x3, rfl, ?_⟩
    have h3 := nq_tr h h1
    constructor
    · intro _
      exact nl_179_27 h3
    · intro _
      refine Par.imp (nl_165) ?_
      rintro v5 s4 ⟨⟨x6, rfl⟩, h4⟩
      refine ⟨x6, rfl, ?_⟩
      have h6 := nq_tr h3 h4
      constructor
      · intro _
        refine Par.imp (nl_165) ?_
        rintro v8 s7 ⟨⟨x9, rfl⟩, h7⟩
        refine ⟨x9, rfl, ?_⟩
        have h9 := nq_tr h6 h7
        constructor
        · intro _
          refine Par.imp (nl_163) ?_
          rintro v11 s10 ⟨rfl, h10⟩
          refine ⟨rfl, ?_⟩
          have h12 := nq_tr h9 h10
          exact hR0 _ h12
        · intro _
          refine Par.imp (nl_184) ?_
          rintro v13 s12 ⟨rfl, h13⟩
          refine ⟨rfl, ?_⟩
          have h15 := nq_tr h9 h13
          exact hR0 _ h15
      · intro _
        refine Par.imp (nl_180) ?_
        rintro v15 s14 ⟨rfl, h16⟩
        refine ⟨rfl, ?_⟩
        have h18 := nq_tr h6 h16
        exact hR0 _ h18
theorem nm_179_0 {d : Nat} {s0 : yS}      {s : yS} (h : Nq s0 s) : ubl_179_0 (Par d)   s (fun v s' => (v = none) ∧ Nq s0 s') :=
  ⟨fun  f => Nq s0 f, h, fun  _ h => nl_179_0 (fun _ q => q)  h⟩
theorem nl_179 {d : Nat}  {s : yS}  : Par d 179 [.ref 213] s (fun v s' => (v = none) ∧ Nq s s') := by
  cases d with
  | zero => exact Par_0
  | succ d => exact pb_179 (nm_179_0  ⟨rfl, rfl⟩)
theorem nl_185_0 {d : Nat} {s0 : yS}    {a0 : Int32}  {s : yS} (h : Nq s0 s) : ub_185_0 (Par d)  a0 s (fun v s' => (∃ x : Int32, v = some (.int x)) ∧ Nq s0 s') := by
  unfold ub_185_0
  intro _
  intro x1 _
  exact ⟨⟨_, rfl⟩, h⟩
theorem nl_185 {d : Nat} {a0 : Int32} {s : yS}  : Par d 185 [.int a0] s (fun v s' => (∃ x : Int32, v = some (.int x)) ∧ Nq s s') := by
  cases d with
  | zero => exact Par_0
  | succ d => exact pb_185 (nl_185_0  ⟨rfl, rfl⟩)
theorem nl_186_4 {d : Nat} {s0 : yS}  {R4 : Int32 → Int32 → Int32 → yS → Prop} (hR4 : ∀ (b0 : Int32) (b1 : Int32) (b2 : Int32) (f : yS), Nq s0 f → R4 b0 b1 b2 f) {a1 : Int32} {a2 : Int32} {a3 : Int32}  {s : yS} (h : Nq s0 s) : ub_186_4 (Par d) R4 a1 a2 a3 s (fun v s' => (∃ x : Int32, v = some (.int x)) ∧ Nq s0 s') := by
  unfold ub_186_4
  constructor
  · intro _
    exact ⟨⟨_, rfl⟩, h⟩
  · intro _
    intro _
    intro _
    intro x1 _
    intro _
    intro x2 _
    intro _
    intro x3 _
    intro _
    intro x4 _
    exact hR4 _ _ _ _ h
theorem nm_186_4 {d : Nat} {s0 : yS}    {a1 : Int32} {a2 : Int32} {a3 : Int32}  {s : yS} (h : Nq s0 s) : ubl_186_4 (Par d)  a1 a2 a3 s (fun v s' => (∃ x : Int32, v = some (.int x)) ∧ Nq s0 s') :=
  ⟨fun z0 z1 z2 f => Nq s0 f, h, fun _ _ _ _ h => nl_186_4 (fun _ _ _ _ q => q)  h⟩
theorem nl_186_0 {d : Nat} {s0 : yS}    {a1 : Int32}  {s : yS} (h : Nq s0 s) : ub_186_0 (Par d)  a1 s (fun v s' => (∃ x : Int32, v = some (.int x)) ∧ Nq s0 s') := by
  unfold ub_186_0
  exact nm_186_4 h
theorem nl_186 {d : Nat} {a1 : Int32} {s : yS}  : Par d 186 [.ref 213, .int a1] s (fun v s' => (∃ x : Int32, v = some (.int x)) ∧ Nq s s') := by
  cases d with
  | zero => exact Par_0
  | succ d => exact pb_186 (nl_186_0  ⟨rfl, rfl⟩)
theorem nl_187_33 {d : Nat} {s0 : yS}    {a1 : Int32} {a2 : Int32} {a3 : Int32} {a4 : Int32} {a5 : Int32} {a6 : Int32}  {s : yS} (h : Nq s0 s) : ub_187_33 (Par d)  a1 a2 a3 a4 a5 a6 s (fun v s' => (∃ x : Int32, v = some (.int x)) ∧ Nq s0 s') := by
  unfold ub_187_33
  intro _
  exact ⟨⟨_, rfl⟩, h⟩
theorem nl_187_30 {d : Nat} {s0 : yS}  {R9 : Int32 → Int32 → Int32 → Int32 → Int32 → Int32 → yS → Prop} (hR9 : ∀ (b0 : Int32) (b1 : Int32) (b2 : Int32) (b3 : Int32) (b4 : Int32) (b5 : Int32) (f : yS), Nq s0 f → R9 b0 b1 b2 b3 b4 b5 f) {a1 : Int32} {a2 : Int32} {a3 : Int32} {a4 : Int32} {a5 : Int32} {a6 : Int32} {t0 : Int32}  {s : yS} (h : Nq s0 s) : ub_187_30 (Par d) R9 a1 a2 a3 a4 a5 a6 t0 s (fun v s' => (∃ x : Int32, v = some (.int x)) ∧ Nq s0 s') := by
  unfold ub_187_30
  intro _
  intro x1 _
  exact hR9 _ _ _ _ _ _ _ h
theorem nl_187_9 {d : Nat} {s0 : yS}  {R9 : Int32 → Int32 → Int32 → Int32 → Int32 → Int32 → yS → Prop} (hR9 : ∀ (b0 : Int32) (b1 : Int32) (b2 : Int32) (b3 : Int32) (b4 : Int32) (b5 : Int32) (f : yS), Nq s0 f → R9 b0 b1 b2 b3 b4 b5 f) {a1 : Int32} {a2 : Int32} {a3 : Int32} {a4 : Int32} {a5 : Int32} {a6 : Int32}  {s : yS} (h : Nq s0 s) : ub_187_9 (Par d) R9 a1 a2 a3 a4 a5 a6 s (fun v s' => (∃ x : Int32, v = some (.int x)) ∧ Nq s0 s') := by
  unfold ub_187_9
  constructor
  · intro _
    exact nl_187_33 h
  · intro _
    constructor
    · intro _
      exact nl_187_33 h
    · intro _
      intro _
      intro x1 _
      intro _
      intro _
      intro x2 _
      intro _
      constructor
      · intro _
        exact nl_187_30 hR9 h
      · intro _
        exact nl_187_30 hR9 h
theorem nm_187_9 {d : Nat} {s0 : yS}    {a1 : Int32} {a2 : Int32} {a3 : Int32} {a4 : Int32} {a5 : Int32} {a6 : Int32}  {s : yS} (h : Nq s0 s) : ubl_187_9 (Par d)  a1 a2 a3 a4 a5 a6 s (fun v s' => (∃ x : Int32, v = some (.int x)) ∧ Nq s0 s') :=
  ⟨fun z0 z1 z2 z3 z4 z5 f => Nq s0 f, h, fun _ _ _ _ _ _ _ h => nl_187_9 (fun _ _ _ _ _ _ _ q => q)  h⟩
theorem nl_187_6 {d : Nat} {s0 : yS}    {a1 : Int32} {a2 : Int32} {a3 : Int32} {a4 : Int32} {t0 : Int32}  {s : yS} (h : Nq s0 s) : ub_187_6 (Par d)  a1 a2 a3 a4 t0 s (fun v s' => (∃ x : Int32, v = some (.int x)) ∧ Nq s0 s') := by
  unfold ub_187_6
  exact nm_187_9 h
theorem nl_187_0 {d : Nat} {s0 : yS}    {a1 : Int32} {a2 : Int32} {a3 : Int32} {a4 : Int32}  {s : yS} (h : Nq s0 s) : ub_187_0 (Par d)  a1 a2 a3 a4 s (fun v s' => (∃ x : Int32, v = some (.int x)) ∧ Nq s0 s') := by
  unfold ub_187_0
  constructor
  · intro _
    exact nl_187_6 h
  · intro _
    exact nl_187_6 h
theorem nl_187 {d : Nat} {a1 : Int32} {a2 : Int32} {a3 : Int32} {a4 : Int32} {s : yS}  : Par d 187 [.ref 213, .int a1, .int a2, .int a3, .int a4] s (fun v s' => (∃ x : Int32, v = some (.int x)) ∧ Nq s s') := by
  cases d with
  | zero => exact Par_0
  | succ d => exact pb_187 (nl_187_0  ⟨rfl, rfl⟩)
theorem nl_188_0 {d : Nat} {s0 : yS}      {s : yS} (h : Nq s0 s) : ub_188_0 (Par d)   s (fun v s' => (∃ x : Int32, v = some (.int x)) ∧ Nq s0 s') := by
  unfold ub_188_0
  intro _
  intro x1 _
  intro _
  intro s2 e1
  have h2 := nq_sa e1 h (by decide)
  intro _
  intro x3 _
  intro _
  intro x4 _
  intro _
  intro s5 e3
  have h4 := nq_sa e3 h2 (by decide)
  intro _
  intro x6 _
  intro s7 e5
  have h6 := nq_sf e5 h4
  intro _
  intro x8 _
  exact ⟨⟨_, rfl⟩, h6⟩
theorem nl_188 {d : Nat}  {s : yS}  : Par d 188 [.ref 213] s (fun v s' => (∃ x : Int32, v = some (.int x)) ∧ Nq s s') := by
  cases d with
  | zero => exact Par_0
  | succ d => exact pb_188 (nl_188_0  ⟨rfl, rfl⟩)
theorem nl_189_29 {d : Nat} {s0 : yS}  {R29 : Int32 → Int32 → Int32 → Int32 → Int32 → Int32 → Int32 → Int32 → yS → Prop} (hR29 : ∀ (b0 : Int32) (b1 : Int32) (b2 : Int32) (b3 : Int32) (b4 : Int32) (b5 : Int32) (b6 : Int32) (b7 : Int32) (f : yS), Nq s0 f → R29 b0 b1 b2 b3 b4 b5 b6 b7 f) {a1 : Int32} {a2 : Int32} {a3 : Int32} {a4 : Int32} {a5 : Int32} {a6 : Int32} {a7 : Int32} {a8 : Int32}  {s : yS} (h : Nq s0 s) : ub_189_29 (Par d) R29 a1 a2 a3 a4 a5 a6 a7 a8 s (fun v s' => (v = none) ∧ Nq s0 s') := by
  unfold ub_189_29
  constructor
  · intro _
    exact ⟨rfl, h⟩
  · intro _
    intro _
    intro x1 _
    intro _
    intro x2 _
    intro _
    intro s3 e1
    have h2 := nq_sa e1 h (by decide)
    refine Par.imp (nl_186) ?_
    rintro v5 s4 ⟨⟨x6, rfl⟩, h3⟩
    refine ⟨x6, rfl, ?_⟩
    have h5 := nq_tr h2 h3
    intro _
    intro x7 _
    intro _
    intro x8 _
    intro _
    intro x9 _
    intro _
    intro s10 e6
    have h7 := nq_sa e6 h5 (by decide)
    intro _
    intro x11 _
    exact hR29 _ _ _ _ _ _ _ _ _ h7
theorem nm_189_29 {d : Nat} {s0 : yS}    {a1 : Int32} {a2 : Int32} {a3 : Int32} {a4 : Int32} {a5 : Int32} {a6 : Int32} {a7 : Int32} {a8 : Int32}  {s : yS} (h : Nq s0 s) : ubl_189_29 (Par d)  a1 a2 a3 a4 a5 a6 a7 a8 s (fun v s' => (v = none) ∧ Nq s0 s') :=
  ⟨fun z0 z1 z2 z3 z4 z5 z6 z7 f => Nq s0 f, h, fun _ _ _ _ _ _ _ _ _ h => nl_189_29 (fun _ _ _ _ _ _ _ _ _ q => q)  h⟩
theorem nl_189_0 {d : Nat} {s0 : yS}    {a1 : Int32} {a2 : Int32} {a3 : Int32} {a4 : Int32}  {s : yS} (h : Nq s0 s) : ub_189_0 (Par d)  a1 a2 a3 a4 s (fun v s' => (v = none) ∧ Nq s0 s') := by
  unfold ub_189_0
  intro _
  intro _
  intro x1 _
  intro _
  intro x2 _
  intro _
  intro x3 _
  intro _
  intro s4 e1
  have h2 := nq_sa e1 h (by decide)
  intro _
  intro s5 e3
  have h4 := nq_sa e3 h2 (by decide)
  intro _
  intro x6 _
  exact nm_189_29 h4
theorem nl_189 {d : Nat} {a1 : Int32} {a2 : Int32} {a3 : Int32} {a4 : Int32} {s : yS}  : Par d 189 [.ref 213, .int a1, .int a2, .int a3, .int a4] s (fun v s' => (v = none) ∧ Nq s s') := by
  cases d with
  | zero => exact Par_0
  | succ d => exact pb_189 (nl_189_0  ⟨rfl, rfl⟩)
theorem nl_190_18 {d : Nat} {s0 : yS}  {R18 : Int32 → Int32 → Int32 → Int32 → Int32 → yS → Prop} (hR18 : ∀ (b0 : Int32) (b1 : Int32) (b2 : Int32) (b3 : Int32) (b4 : Int32) (f : yS), Nq s0 f → R18 b0 b1 b2 b3 b4 f) {a1 : Int32} {a2 : Int32} {a3 : Int32} {a4 : Int32} {a5 : Int32}  {s : yS} (h : Nq s0 s) : ub_190_18 (Par d) R18 a1 a2 a3 a4 a5 s (fun v s' => (v = none) ∧ Nq s0 s') := by
  unfold ub_190_18
  constructor
  · intro _
    exact ⟨rfl, h⟩
  · intro _
    intro _
    intro x1 _
    intro _
    intro x2 _
    intro _
    intro s3 e1
    have h2 := nq_sa e1 h (by decide)
    intro _
    intro x4 _
    intro _
    intro x5 _
    intro _
    intro s6 e3
    have h4 := nq_sa e3 h2 (by decide)
    intro _
    intro x7 _
    exact hR18 _ _ _ _ _ _ h4
theorem nm_190_18 {d : Nat} {s0 : yS}    {a1 : Int32} {a2 : Int32} {a3 : Int32} {a4 : Int32} {a5 : Int32}  {s : yS} (h : Nq s0 s) : ubl_190_18 (Par d)  a1 a2 a3 a4 a5 s (fun v s' => (v = none) ∧ Nq s0 s') :=
  ⟨fun z0 z1 z2 z3 z4 f => Nq s0 f, h, fun _ _ _ _ _ _ h => nl_190_18 (fun _ _ _ _ _ _ q => q)  h⟩
theorem nl_190_0 {d : Nat} {s0 : yS}    {a1 : Int32} {a2 : Int32} {a3 : Int32}  {s : yS} (h : Nq s0 s) : ub_190_0 (Par d)  a1 a2 a3 s (fun v s' => (v = none) ∧ Nq s0 s') := by
  unfold ub_190_0
  intro _
  intro x1 _
  intro _
  intro x2 _
  intro _
  intro s3 e1
  have h2 := nq_sa e1 h (by decide)
  intro _
  intro s4 e3
  have h4 := nq_sa e3 h2 (by decide)
  exact nm_190_18 h4
theorem nl_190 {d : Nat} {a1 : Int32} {a2 : Int32} {a3 : Int32} {s : yS}  : Par d 190 [.ref 213, .int a1, .int a2, .int a3] s (fun v s' => (v = none) ∧ Nq s s') := by
  cases d with
  | zero => exact Par_0
  | succ d => exact pb_190 (nl_190_0  ⟨rfl, rfl⟩)
theorem nl_192_37 {d : Nat} {s0 : yS}    {a1 : Int32} {a2 : Int32} {a3 : Int32}  {s : yS} (h : Nq s0 s) : ub_192_37 (Par d)  a1 a2 a3 s (fun v s' => (∃ x : Int32, v = some (.int x)) ∧ Nq s0 s') := by
  unfold ub_192_37
  exact ⟨⟨_, rfl⟩, h⟩
theorem nl_192_35 {d : Nat} {s0 : yS}  {R2 : Int32 → Int32 → Int32 → yS → Prop} (hR2 : ∀ (b0 : Int32) (b1 : Int32) (b2 : Int32) (f : yS), Nq s0 f → R2 b0 b1 b2 f) {a1 : Int32} {a2 : Int32} {a3 : Int32} {a4 : Int32} {a5 : Int32}  {s : yS} (h : Nq s0 s) : ub_192_35 (Par d) R2 a1 a2 a3 a4 a5 s (fun v s' => (∃ x : Int32, v = some (.int x)) ∧ Nq s0 s') := by
  unfold ub_192_35
  intro _
  intro x1 _
  exact hR2 _ _ _ _ h
theorem nl_192_2 {d : Nat} {s0 : yS}  {R2 : Int32 → Int32 → Int32 → yS → Prop} (hR2 : ∀ (b0 : Int32) (b1 : Int32) (b2 : Int32) (f : yS), Nq s0 f → R2 b0 b1 b2 f) {a1 : Int32} {a2 : Int32} {a3 : Int32}  {s : yS} (h : Nq s0 s) : ub_192_2 (Par d) R2 a1 a2 a3 s (fun v s' => (∃ x : Int32, v = some (.int x)) ∧ Nq s0 s') := by
  unfold ub_192_2
  constructor
  · intro _
    exact nl_192_37 h
  · intro _
    constructor
    · intro _
      exact nl_192_37 h
    · intro _
      intro _
      intro x1 _
      intro _
      intro x2 _
      intro _
      intro _
      intro x3 _
      constructor
      · intro _
        exact nl_192_35 hR2 h
      · intro _
        intro _
        constructor
        · intro _
          exact nl_192_35 hR2 h
        · intro _
          intro _
          intro x4 _
          intro _
          intro x5 _
          exact ⟨⟨_, rfl⟩, h⟩
theorem nm_192_2 {d : Nat} {s0 : yS}    {a1 : Int32} {a2 : Int32} {a3 : Int32}  {s : yS} (h : Nq s0 s) : ubl_192_2 (Par d)  a1 a2 a3 s (fun v s' => (∃ x : Int32, v = some (.int x)) ∧ Nq s0 s') :=
  ⟨fun z0 z1 z2 f => Nq s0 f, h, fun _ _ _ _ h => nl_192_2 (fun _ _ _ _ q => q)  h⟩
theorem nl_192_0 {d : Nat} {s0 : yS}    {a1 : Int32} {a2 : Int32}  {s : yS} (h : Nq s0 s) : ub_192_0 (Par d)  a1 a2 s (fun v s' => (∃ x : Int32, v = some (.int x)) ∧ Nq s0 s') := by
  unfold ub_192_0
  exact nm_192_2 h
theorem nl_192 {d : Nat} {a1 : Int32} {a2 : Int32} {s : yS}  : Par d 192 [.ref 213, .int a1, .int a2] s (fun v s' => (∃ x : Int32, v = some (.int x)) ∧ Nq s s') := by
  cases d with
  | zero => exact Par_0
  | succ d => exact pb_192 (nl_192_0  ⟨rfl, rfl⟩)
theorem nl_191_68 {d : Nat} {s0 : yS}  {R7 : Int32 → Int32 → Int32 → Int32 → Int32 → Int32 → yS → Prop} {R42 : Int32 → Int32 → Int32 → Int32 → Int32 → Int32 → Int32 → Int32 → Int32 → yS → Prop} (hR7 : ∀ (b0 : Int32) (b1 : Int32) (b2 : Int32) (b3 : Int32) (b4 : Int32) (b5 : Int32) (f : yS), Nq s0 f → R7 b0 b1 b2 b3 b4 b5 f) (hR42 : ∀ (b0 : Int32) (b1 : Int32) (b2 : Int32) (b3 : Int32) (b4 : Int32) (b5 : Int32) (b6 : Int32) (b7 : Int32) (b8 : Int32) (f : yS), Nq s0 f → R42 b0 b1 b2 b3 b4 b5 b6 b7 b8 f) {a1 : Int32} {a2 : Int32} {a3 : Int32} {a4 : Int32} {a5 : Int32} {a6 : Int32} {a7 : Int32} {a8 : Int32} {a9 : Int32} {t1 : Int32} {t2 : Int32}  {s : yS} (h : Nq s0 s) : ub_191_68 (Par d) R7 R42 a1 a2 a3 a4 a5 a6 a7 a8 a9 t1 t2 s (fun v s' => (∃ x : Int32, v = some (.int x)) ∧ Nq s0 s') := by
  unfold ub_191_68
  intro _
  intro s1 e1
  have h2 := nq_sa e1 h (by decide)
  intro _
  intro x2 _
  exact hR42 _ _ _ _ _ _ _ _ _ _ h2
theorem nl_191_42 {d : Nat} {s0 : yS}  {R7 : Int32 → Int32 → Int32 → Int32 → Int32 → Int32 → yS → Prop} {R42 : Int32 → Int32 → Int32 → Int32 → Int32 → Int32 → Int32 → Int32 → Int32 → yS → Prop} (hR7 : ∀ (b0 : Int32) (b1 : Int32) (b2 : Int32) (b3 : Int32) (b4 : Int32) (b5 : Int32) (f : yS), Nq s0 f → R7 b0 b1 b2 b3 b4 b5 f) (hR42 : ∀ (b0 : Int32) (b1 : Int32) (b2 : Int32) (b3 : Int32) (b4 : Int32) (b5 : Int32) (b6 : Int32) (b7 : Int32) (b8 : Int32) (f : yS), Nq s0 f → R42 b0 b1 b2 b3 b4 b5 b6 b7 b8 f) {a1 : Int32} {a2 : Int32} {a3 : Int32} {a4 : Int32} {a5 : Int32} {a6 : Int32} {a7 : Int32} {a8 : Int32} {a9 : Int32}  {s : yS} (h : Nq s0 s) : ub_191_42 (Par d) R7 R42 a1 a2 a3 a4 a5 a6 a7 a8 a9 s (fun v s' => (∃ x : Int32, v = some (.int x)) ∧ Nq s0 s') := by
  unfold ub_191_42
  constructor
  · intro _
    intro _
    intro x1 _
    intro _
    intro x2 _
    exact hR7 _ _ _ _ _ _ _ h
  · intro _
    intro _
    intro x3 _
    intro _
    intro x4 _
    constructor
    · intro _
      intro _
      intro _
      intro x5 _
      intro _
      exact nl_191_68 hR7 hR42 h
    · intro _
      intro _
      exact nl_191_68 hR7 hR42 h
theorem nm_191_42 {d : Nat} {s0 : yS}  {R7 : Int32 → Int32 → Int32 → Int32 → Int32 → Int32 → yS → Prop} (hR7 : ∀ (b0 : Int32) (b1 : Int32) (b2 : Int32) (b3 : Int32) (b4 : Int32) (b5 : Int32) (f : yS), Nq s0 f → R7 b0 b1 b2 b3 b4 b5 f) {a1 : Int32} {a2 : Int32} {a3 : Int32} {a4 : Int32} {a5 : Int32} {a6 : Int32} {a7 : Int32} {a8 : Int32} {a9 : Int32}  {s : yS} (h : Nq s0 s) : ubl_191_42 (Par d) R7 a1 a2 a3 a4 a5 a6 a7 a8 a9 s (fun v s' => (∃ x : Int32, v = some (.int x)) ∧ Nq s0 s') :=
  ⟨fun z0 z1 z2 z3 z4 z5 z6 z7 z8 f => Nq s0 f, h, fun _ _ _ _ _ _ _ _ _ _ h => nl_191_42 hR7 (fun _ _ _ _ _ _ _ _ _ _ q => q)  h⟩
theorem nl_191_29 {d : Nat} {s0 : yS}  {R7 : Int32 → Int32 → Int32 → Int32 → Int32 → Int32 → yS → Prop} (hR7 : ∀ (b0 : Int32) (b1 : Int32) (b2 : Int32) (b3 : Int32) (b4 : Int32) (b5 : Int32) (f : yS), Nq s0 f → R7 b0 b1 b2 b3 b4 b5 f) {a1 : Int32} {a2 : Int32} {a3 : Int32} {a4 : Int32} {a5 : Int32} {a6 : Int32} {a7 : Int32} {t0 : Int32}  {s : yS} (h : Nq s0 s) : ub_191_29 (Par d) R7 a1 a2 a3 a4 a5 a6 a7 t0 s (fun v s' => (∃ x : Int32, v = some (.int x)) ∧ Nq s0 s') := by
  unfold ub_191_29
  intro _
  intro x1 _
  constructor
  · intro _
    exact nm_191_42 hR7 h
  · intro _
    intro s2 e1
    have h2 := nq_sf e1 h
    exact ⟨⟨_, rfl⟩, h2⟩
theorem nl_191_7 {d : Nat} {s0 : yS}  {R7 : Int32 → Int32 → Int32 → Int32 → Int32 → Int32 → yS → Prop} (hR7 : ∀ (b0 : Int32) (b1 : Int32) (b2 : Int32) (b3 : Int32) (b4 : Int32) (b5 : Int32) (f : yS), Nq s0 f → R7 b0 b1 b2 b3 b4 b5 f) {a1 : Int32} {a2 : Int32} {a3 : Int32} {a4 : Int32} {a5 : Int32} {a6 : Int32}  {s : yS} (h : Nq s0 s) : ub_191_7 (Par d) R7 a1 a2 a3 a4 a5 a6 s (fun v s' => (∃ x : Int32, v = some (.int x)) ∧ Nq s0 s') := by
  unfold ub_191_7
  intro _
  intro x1 _
  constructor
  · intro _
    intro s2 e1
    have h2 := nq_sf e1 h
    intro s3 e3
    have h4 := nq_sf e3 h2
    intro _
    intro x4 _
    intro s5 e5
    have h6 := nq_sf e5 h4
    exact ⟨⟨_, rfl⟩, h6⟩
  · intro _
    intro _
    refine Par.imp (nl_185) ?_
    rintro v7 s6 ⟨⟨x8, rfl⟩, h7⟩
    refine ⟨x8, rfl, ?_⟩
    have h9 := nq_tr h h7
    refine Par.imp (nl_192) ?_
    rintro v10 s9 ⟨⟨x11, rfl⟩, h10⟩
    refine ⟨x11, rfl, ?_⟩
    have h12 := nq_tr h9 h10
    constructor
    · intro _
      intro _
      exact nl_191_29 hR7 h12
    · intro _
      exact nl_191_29 hR7 h12
theorem nm_191_7 {d : Nat} {s0 : yS}    {a1 : Int32} {a2 : Int32} {a3 : Int32} {a4 : Int32} {a5 : Int32} {a6 : Int32}  {s : yS} (h : Nq s0 s) : ubl_191_7 (Par d)  a1 a2 a3 a4 a5 a6 s (fun v s' => (∃ x : Int32, v = some (.int x)) ∧ Nq s0 s') :=
  ⟨fun z0 z1 z2 z3 z4 z5 f => Nq s0 f, h, fun _ _ _ _ _ _ _ h => nl_191_7 (fun _ _ _ _ _ _ _ q => q)  h⟩
theorem nl_191_0 {d : Nat} {s0 : yS}    {a1 : Int32} {a2 : Int32} {a3 : Int32}  {s : yS} (h : Nq s0 s) : ub_191_0 (Par d)  a1 a2 a3 s (fun v s' => (∃ x : Int32, v = some (.int x)) ∧ Nq s0 s') := by
  unfold ub_191_0
  exact nm_191_7 h
theorem nl_191 {d : Nat} {a1 : Int32} {a2 : Int32} {a3 : Int32} {s : yS}  : Par d 191 [.ref 213, .int a1, .int a2, .int a3] s (fun v s' => (∃ x : Int32, v = some (.int x)) ∧ Nq s s') := by
  cases d with
  | zero => exact Par_0
  | succ d => exact pb_191 (nl_191_0  ⟨rfl, rfl⟩)
theorem nl_193_120 {d : Nat} {s0 : yS}    {a1 : Int32} {a2 : Int32} {a3 : Int32} {a4 : Int32} {t0 : Int32}  {s : yS} (h : Nq s0 s) : ub_193_120 (Par d)  a1 a2 a3 a4 t0 s (fun v s' => (∃ x : Int32, v = some (.int x)) ∧ Nq s0 s') := by
  unfold ub_193_120
  intro _
  exact ⟨⟨_, rfl⟩, h⟩
theorem nl_193_114 {d : Nat} {s0 : yS}    {a1 : Int32} {a2 : Int32} {a3 : Int32} {a4 : Int32}  {s : yS} (h : Nq s0 s) : ub_193_114 (Par d)  a1 a2 a3 a4 s (fun v s' => (∃ x : Int32, v = some (.int x)) ∧ Nq s0 s') := by
  unfold ub_193_114
  constructor
  · intro _
    exact nl_193_120 h
  · intro _
    exact nl_193_120 h
theorem nl_193_112 {d : Nat} {s0 : yS}  {R78 : Int32 → Int32 → Int32 → Int32 → yS → Prop} (hR78 : ∀ (b0 : Int32) (b1 : Int32) (b2 : Int32) (b3 : Int32) (f : yS), Nq s0 f → R78 b0 b1 b2 b3 f) {a1 : Int32} {a2 : Int32} {a3 : Int32} {a4 : Int32}  {s : yS} (h : Nq s0 s) : ub_193_112 (Par d) R78 a1 a2 a3 a4 s (fun v s' => (∃ x : Int32, v = some (.int x)) ∧ Nq s0 s') := by
  unfold ub_193_112
  intro _
  intro x1 _
  exact hR78 _ _ _ _ _ h
theorem nl_193_78 {d : Nat} {s0 : yS}  {R78 : Int32 → Int32 → Int32 → Int32 → yS → Prop} (hR78 : ∀ (b0 : Int32) (b1 : Int32) (b2 : Int32) (b3 : Int32) (f : yS), Nq s0 f → R78 b0 b1 b2 b3 f) {a1 : Int32} {a2 : Int32} {a3 : Int32} {a4 : Int32}  {s : yS} (h : Nq s0 s) : ub_193_78 (Par d) R78 a1 a2 a3 a4 s (fun v s' => (∃ x : Int32, v = some (.int x)) ∧ Nq s0 s') := by
  unfold ub_193_78
  intro _
  intro _
  intro _
  intro x1 _
  constructor
  · intro _
    exact nl_193_114 h
  · intro _
    intro _
    intro _
    constructor
    · intro _
      exact nl_193_112 hR78 h
    · intro _
      intro s2 e1
      have h2 := nq_sf e1 h
      intro _
      refine Par.imp (nl_185) ?_
      rintro v4 s3 ⟨⟨x5, rfl⟩, h3⟩
      refine ⟨x5, rfl, ?_⟩
      have h5 := nq_tr h2 h3
      intro _
      intro x6 _
      intro _
      intro x7 _
      intro s8 e6
      have h7 := nq_sf e6 h5
      exact nl_193_112 hR78 h7
theorem nm_193_78 {d : Nat} {s0 : yS}    {a1 : Int32} {a2 : Int32} {a3 : Int32} {a4 : Int32}  {s : yS} (h : Nq s0 s) : ubl_193_78 (Par d)  a1 a2 a3 a4 s (fun v s' => (∃ x : Int32, v = some (.int x)) ∧ Nq s0 s') :=
  ⟨fun z0 z1 z2 z3 f => Nq s0 f, h, fun _ _ _ _ _ h => nl_193_78 (fun _ _ _ _ _ q => q)  h⟩
theorem nl_193_70 {d : Nat} {s0 : yS}  {R21 : Int32 → Int32 → Int32 → Int32 → yS → Prop} (hR21 : ∀ (b0 : Int32) (b1 : Int32) (b2 : Int32) (b3 : Int32) (f : yS), Nq s0 f → R21 b0 b1 b2 b3 f) {a1 : Int32} {a2 : Int32} {a3 : Int32} {a4 : Int32} {a5 : Int32}  {s : yS} (h : Nq s0 s) : ub_193_70 (Par d) R21 a1 a2 a3 a4 a5 s (fun v s' => (∃ x : Int32, v = some (.int x)) ∧ Nq s0 s') := by
  unfold ub_193_70
  intro _
  intro x1 _
  exact hR21 _ _ _ _ _ h
theorem nl_193_21 {d : Nat} {s0 : yS}  {R21 : Int32 → Int32 → Int32 → Int32 → yS → Prop} (hR21 : ∀ (b0 : Int32) (b1 : Int32) (b2 : Int32) (b3 : Int32) (f : yS), Nq s0 f → R21 b0 b1 b2 b3 f) {a1 : Int32} {a2 : Int32} {a3 : Int32} {a4 : Int32}  {s : yS} (h : Nq s0 s) : ub_193_21 (Par d) R21 a1 a2 a3 a4 s (fun v s' => (∃ x : Int32, v = some (.int x)) ∧ Nq s0 s') := by
  unfold ub_193_21
  intro _
  constructor
  · intro _
    exact nl_193_114 h
  · intro _
    intro _
    intro x1 _
    intro _
    intro x2 _
    intro _
    intro _
    refine Par.imp (nl_185) ?_
    rintro v4 s3 ⟨⟨x5, rfl⟩, h1⟩
    refine ⟨x5, rfl, ?_⟩
    have h3 := nq_tr h h1
    constructor
    · intro _
      exact nl_193_70 hR21 h3
    · intro _
      intro _
      intro _
      intro _
      constructor
      · intro _
        exact nl_193_70 hR21 h3
      · intro _
        intro _
        intro s6 e4
        have h5 := nq_sf e4 h3
        intro _
        intro x7 _
        intro _
        intro x8 _
        intro s9 e6
        have h7 := nq_sf e6 h5
        exact nl_193_70 hR21 h7
theorem nm_193_21 {d : Nat} {s0 : yS}    {a1 : Int32} {a2 : Int32} {a3 : Int32} {a4 : Int32}  {s : yS} (h : Nq s0 s) : ubl_193_21 (Par d)  a1 a2 a3 a4 s (fun v s' => (∃ x : Int32, v = some (.int x)) ∧ Nq s0 s') :=
  ⟨fun z0 z1 z2 z3 f => Nq s0 f, h, fun _ _ _ _ _ h => nl_193_21 (fun _ _ _ _ _ q => q)  h⟩
theorem nl_193_0 {d : Nat} {s0 : yS}    {a1 : Int32} {a2 : Int32}  {s : yS} (h : Nq s0 s) : ub_193_0 (Par d)  a1 a2 s (fun v s' => (∃ x : Int32, v = some (.int x)) ∧ Nq s0 s') := by
  unfold ub_193_0
  intro _
  intro x1 _
  intro _
  refine Par.imp (nl_185) ?_
  rintro v3 s2 ⟨⟨x4, rfl⟩, h1⟩
  refine ⟨x4, rfl, ?_⟩
  have h3 := nq_tr h h1
  intro _
  intro x5 _
  intro s6 e4
  have h5 := nq_sf e4 h3
  intro _
  constructor
  · intro _
    intro _
    exact nm_193_78 h5
  · intro _
    exact nm_193_21 h5
theorem nl_193 {d : Nat} {a1 : Int32} {a2 : Int32} {s : yS}  : Par d 193 [.ref 213, .int a1, .int a2] s (fun v s' => (∃ x : Int32, v = some (.int x)) ∧ Nq s s') := by
  cases d with
  | zero => exact Par_0
  | succ d => exact pb_193 (nl_193_0  ⟨rfl, rfl⟩)
theorem nl_194_147 {d : Nat} {s0 : yS}    {a1 : Int32} {a2 : Int32} {a3 : Int32}  {s : yS} (h : Nq s0 s) : ub_194_147 (Par d)  a1 a2 a3 s (fun v s' => (v = none) ∧ Nq s0 s') := by
  unfold ub_194_147
  intro _
  intro _
  refine Par.imp (nl_191) ?_
  rintro v2 s1 ⟨⟨x3, rfl⟩, h1⟩
  refine ⟨x3, rfl, ?_⟩
  have h3 := nq_tr h h1
  intro _
  intro x4 _
  intro s5 e4
  have h5 := nq_sf e4 h3
  exact ⟨rfl, h5⟩
theorem nl_194_58 {d : Nat} {s0 : yS}  {R58 : Int32 → Int32 → Int32 → Int32 → Int32 → Int32 → yS → Prop} (hR58 : ∀ (b0 : Int32) (b1 : Int32) (b2 : Int32) (b3 : Int32) (b4 : Int32) (b5 : Int32) (f : yS), Nq s0 f → R58 b0 b1 b2 b3 b4 b5 f) {a1 : Int32} {a2 : Int32} {a4 : Int32} {a5 : Int32} {a6 : Int32} {a7 : Int32}  {s : yS} (h : Nq s0 s) : ub_194_58 (Par d) R58 a1 a2 a4 a5 a6 a7 s (fun v s' => (v = none) ∧ Nq s0 s') := by
  unfold ub_194_58
  intro _
  constructor
  · intro _
    intro _
    intro x1 _
    intro _
    intro x2 _
    intro _
    intro x3 _
    intro _
    intro x4 _
    intro _
    exact nl_194_147 h
  · intro _
    intro _
    intro x5 _
    intro _
    intro x6 _
    intro _
    intro x7 _
    intro _
    intro x8 _
    intro _
    intro s9 e1
    have h2 := nq_sa e1 h (by decide)
    intro _
    intro x10 _
    intro _
    intro x11 _
    intro _
    intro s12 e3
    have h4 := nq_sa e3 h2 (by decide)
    intro _
    intro x13 _
    intro _
    intro x14 _
    intro _
    intro s15 e5
    have h6 := nq_sa e5 h4 (by decide)
    intro _
    intro x16 _
    intro s17 e7
    have h8 := nq_sf e7 h6
    intro _
    intro x18 _
    exact hR58 _ _ _ _ _ _ _ h8
theorem nm_194_58 {d : Nat} {s0 : yS}    {a1 : Int32} {a2 : Int32} {a4 : Int32} {a5 : Int32} {a6 : Int32} {a7 : Int32}  {s : yS} (h : Nq s0 s) : ubl_194_58 (Par d)  a1 a2 a4 a5 a6 a7 s (fun v s' => (v = none) ∧ Nq s0 s') :=
  ⟨fun z0 z1 z2 z3 z4 z5 f => Nq s0 f, h, fun _ _ _ _ _ _ _ h => nl_194_58 (fun _ _ _ _ _ _ _ q => q)  h⟩
theorem nl_194_0 {d : Nat} {s0 : yS}    {a1 : Int32}  {s : yS} (h : Nq s0 s) : ub_194_0 (Par d)  a1 s (fun v s' => (v = none) ∧ Nq s0 s') := by
  unfold ub_194_0
  refine Par.imp (nl_188) ?_
  rintro v2 s1 ⟨⟨x3, rfl⟩, h1⟩
  refine ⟨x3, rfl, ?_⟩
  have h3 := nq_tr h h1
  constructor
  · intro _
    constructor
    · intro _
      intro _
      intro x4 _
      intro _
      intro x5 _
      intro _
      intro x6 _
      intro _
      exact nl_194_147 h3
    · intro _
      intro _
      intro x7 _
      intro _
      intro x8 _
      intro _
      intro x9 _
      intro _
      exact nl_194_147 h3
  · intro _
    intro _
    intro x10 _
    intro _
    intro x11 _
    intro _
    intro x12 _
    intro _
    intro x13 _
    intro _
    intro x14 _
    intro _
    intro _
    intro x15 _
    intro _
    intro x16 _
    intro _
    intro x17 _
    intro _
    intro x18 _
    intro _
    intro _
    intro x19 _
    intro _
    intro x20 _
    intro _
    intro s21 e4
    have h5 := nq_sa e4 h3 (by decide)
    intro _
    intro _
    intro s22 e6
    have h7 := nq_sa e6 h5 (by decide)
    exact nm_194_58 h7
theorem nl_194 {d : Nat} {a1 : Int32} {s : yS}  : Par d 194 [.ref 213, .int a1] s (fun v s' => (v = none) ∧ Nq s s') := by
  cases d with
  | zero => exact Par_0
  | succ d => exact pb_194 (nl_194_0  ⟨rfl, rfl⟩)
theorem nl_197_51 {d : Nat} {s0 : yS}    {a1 : Int32} {a2 : Int32} {a3 : Int32} {a4 : Int32} {a5 : Int32} {a6 : Int32} {a7 : Int32} {a8 : Int32} {t0 : Int32}  {s : yS} (h : Nq s0 s) : ub_197_51 (Par d)  a1 a2 a3 a4 a5 a6 a7 a8 t0 s (fun v s' => (∃ x : Int32, v = some (.int x)) ∧ Nq s0 s') := by
  unfold ub_197_51
  intro s1 e1
  have h2 := nq_sf e1 h
  exact ⟨⟨_, rfl⟩, h2⟩
theorem nl_197_0 {d : Nat} {s0 : yS}    {a1 : Int32} {a2 : Int32} {a3 : Int32} {a4 : Int32}  {s : yS} (h : Nq s0 s) : ub_197_0 (Par d)  a1 a2 a3 a4 s (fun v s' => (∃ x : Int32, v = some (.int x)) ∧ Nq s0 s') := by
  unfold ub_197_0
  intro _
  intro _
  refine Par.imp (nl_191) ?_
  rintro v2 s1 ⟨⟨x3, rfl⟩, h1⟩
  refine ⟨x3, rfl, ?_⟩
  have h3 := nq_tr h h1
  constructor
  · intro _
    intro _
    intro _
    refine Par.imp (nl_191) ?_
    rintro v5 s4 ⟨⟨x6, rfl⟩, h4⟩
    refine ⟨x6, rfl, ?_⟩
    have h6 := nq_tr h3 h4
    constructor
    · intro _
      refine Par.imp (nl_187) ?_
      rintro v8 s7 ⟨⟨x9, rfl⟩, h7⟩
      refine ⟨x9, rfl, ?_⟩
      have h9 := nq_tr h6 h7
      constructor
      · intro _
        exact nl_197_51 h9
      · intro _
        exact nl_197_51 h9
    · intro _
      exact nl_197_51 h6
  · intro _
    exact ⟨⟨_, rfl⟩, h3⟩
theorem nl_197 {d : Nat} {a1 : Int32} {a2 : Int32} {a3 : Int32} {a4 : Int32} {s : yS}  : Par d 197 [.ref 213, .int a1, .int a2, .int a3, .int a4] s (fun v s' => (∃ x : Int32, v = some (.int x)) ∧ Nq s s') := by
  cases d with
  | zero => exact Par_0
  | succ d => exact pb_197 (nl_197_0  ⟨rfl, rfl⟩)
theorem nl_196_171 {d : Nat} {s0 : yS}    {a1 : Int32} {a2 : Int32} {a3 : Int32} {a4 : Int32} {a5 : Int32} {a6 : Int32} {a7 : Int32} {a8 : Int32} {a9 : Int32} {t0 : Int32}  {s : yS} (h : Nq s0 s) : ub_196_171 (Par d)  a1 a2 a3 a4 a5 a6 a7 a8 a9 t0 s (fun v s' => (∃ x : Int32, v = some (.int x)) ∧ Nq s0 s') := by
  unfold ub_196_171
  intro _
  intro x1 _
  intro s2 e1
  have h2 := nq_sf e1 h
  exact ⟨⟨_, rfl⟩, h2⟩
theorem nl_196_154 {d : Nat} {s0 : yS}    {a1 : Int32} {a2 : Int32} {a3 : Int32} {a4 : Int32} {a5 : Int32} {a6 : Int32} {a7 : Int32} {a8 : Int32} {a9 : Int32}  {s : yS} (h : Nq s0 s) : ub_196_154 (Par d)  a1 a2 a3 a4 a5 a6 a7 a8 a9 s (fun v s' => (∃ x : Int32, v = some (.int x)) ∧ Nq s0 s') := by
  unfold ub_196_154
  constructor
  · intro _
    exact nl_196_171 h
  · intro _
    intro _
    intro _
    refine Par.imp (nl_197) ?_
    rintro v2 s1 ⟨⟨x3, rfl⟩, h1⟩
    refine ⟨x3, rfl, ?_⟩
    have h3 := nq_tr h h1
    exact nl_196_171 h3
theorem nl_196_122 {d : Nat} {s0 : yS}  {R122 : Int32 → Int32 → Int32 → Int32 → Int32 → Int32 → Int32 → Int32 → Int32 → yS → Prop} (hR122 : ∀ (b0 : Int32) (b1 : Int32) (b2 : Int32) (b3 : Int32) (b4 : Int32) (b5 : Int32) (b6 : Int32) (b7 : Int32) (b8 : Int32) (f : yS), Nq s0 f → R122 b0 b1 b2 b3 b4 b5 b6 b7 b8 f) {a1 : Int32} {a2 : Int32} {a3 : Int32} {a4 : Int32} {a5 : Int32} {a6 : Int32} {a7 : Int32} {a8 : Int32} {a9 : Int32}  {s : yS} (h : Nq s0 s) : ub_196_122 (Par d) R122 a1 a2 a3 a4 a5 a6 a7 a8 a9 s (fun v s' => (∃ x : Int32, v = some (.int x)) ∧ Nq s0 s') := by
  unfold ub_196_122
  intro _
  constructor
  · intro _
    exact nl_196_154 h
  · intro _
    constructor
    · intro _
      exact nl_196_154 h
    · intro _
      intro _
      intro x1 _
      intro _
      intro x2 _
      intro _
      intro _
      intro x3 _
      intro _
      intro x4 _
      intro _
      refine Par.imp (nl_197) ?_
      rintro v6 s5 ⟨⟨x7, rfl⟩, h1⟩
      refine ⟨x7, rfl, ?_⟩
      have h3 := nq_tr h h1
      intro _
      intro x8 _
      exact hR122 _ _ _ _ _ _ _ _ _ _ h3
theorem nm_196_122 {d : Nat} {s0 : yS}    {a1 : Int32} {a2 : Int32} {a3 : Int32} {a4 : Int32} {a5 : Int32} {a6 : Int32} {a7 : Int32} {a8 : Int32} {a9 : Int32}  {s : yS} (h : Nq s0 s) : ubl_196_122 (Par d)  a1 a2 a3 a4 a5 a6 a7 a8 a9 s (fun v s' => (∃ x : Int32, v = some (.int x)) ∧ Nq s0 s') :=
  ⟨fun z0 z1 z2 z3 z4 z5 z6 z7 z8 f => Nq s0 f, h, fun _ _ _ _ _ _ _ _ _ _ h => nl_196_122 (fun _ _ _ _ _ _ _ _ _ _ q => q)  h⟩
theorem nl_196_119 {d : Nat} {s0 : yS}    {a1 : Int32} {a2 : Int32} {a3 : Int32} {a4 : Int32} {a5 : Int32} {a6 : Int32} {a7 : Int32} {a8 : Int32} {a9 : Int32} {t0 : Int32}  {s : yS} (h : Nq s0 s) : ub_196_119 (Par d)  a1 a2 a3 a4 a5 a6 a7 a8 a9 t0 s (fun v s' => (∃ x : Int32, v = some (.int x)) ∧ Nq s0 s') := by
  unfold ub_196_119
  exact nm_196_122 h
theorem nl_196_118 {d : Nat} {s0 : yS}    {a1 : Int32} {a2 : Int32} {a3 : Int32} {a4 : Int32} {a5 : Int32} {a6 : Int32} {a7 : Int32} {a8 : Int32} {a9 : Int32}  {s : yS} (h : Nq s0 s) : ub_196_118 (Par d)  a1 a2 a3 a4 a5 a6 a7 a8 a9 s (fun v s' => (∃ x : Int32, v = some (.int x)) ∧ Nq s0 s') := by
  unfold ub_196_118
  exact nl_196_119 h
theorem nl_196_104 {d : Nat} {s0 : yS}    {a1 : Int32} {a2 : Int32} {a3 : Int32} {a4 : Int32} {a5 : Int32} {a6 : Int32} {a7 : Int32} {a8 : Int32} {a9 : Int32}  {s : yS} (h : Nq s0 s) : ub_196_104 (Par d)  a1 a2 a3 a4 a5 a6 a7 a8 a9 s (fun v s' => (∃ x : Int32, v = some (.int x)) ∧ Nq s0 s') := by
  unfold ub_196_104
  constructor
  · intro _
    exact nl_196_118 h
  · intro _
    intro _
    intro _
    constructor
    · intro _
      exact nl_196_118 h
    · intro _
      exact nl_196_119 h
theorem nl_196_72 {d : Nat} {s0 : yS}  {R72 : Int32 → Int32 → Int32 → Int32 → Int32 → Int32 → Int32 → Int32 → Int32 → yS → Prop} (hR72 : ∀ (b0 : Int32) (b1 : Int32) (b2 : Int32) (b3 : Int32) (b4 : Int32) (b5 : Int32) (b6 : Int32) (b7 : Int32) (b8 : Int32) (f : yS), Nq s0 f → R72 b0 b1 b2 b3 b4 b5 b6 b7 b8 f) {a1 : Int32} {a2 : Int32} {a3 : Int32} {a4 : Int32} {a5 : Int32} {a6 : Int32} {a7 : Int32} {a8 : Int32} {a9 : Int32}  {s : yS} (h : Nq s0 s) : ub_196_72 (Par d) R72 a1 a2 a3 a4 a5 a6 a7 a8 a9 s (fun v s' => (∃ x : Int32, v = some (.int x)) ∧ Nq s0 s') := by
  unfold ub_196_72
  intro _
  constructor
  · intro _
    exact nl_196_104 h
  · intro _
    constructor
    · intro _
      exact nl_196_104 h
    · intro _
      intro _
      intro x1 _
      intro _
      intro x2 _
      intro _
      intro _
      intro x3 _
      intro _
      intro x4 _
      intro _
      refine Par.imp (nl_197) ?_
      rintro v6 s5 ⟨⟨x7, rfl⟩, h1⟩
      refine ⟨x7, rfl, ?_⟩
      have h3 := nq_tr h h1
      intro _
      intro x8 _
      exact hR72 _ _ _ _ _ _ _ _ _ _ h3
theorem nm_196_72 {d : Nat} {s0 : yS}    {a1 : Int32} {a2 : Int32} {a3 : Int32} {a4 : Int32} {a5 : Int32} {a6 : Int32} {a7 : Int32} {a8 : Int32} {a9 : Int32}  {s : yS} (h : Nq s0 s) : ubl_196_72 (Par d)  a1 a2 a3 a4 a5 a6 a7 a8 a9 s (fun v s' => (∃ x : Int32, v = some (.int x)) ∧ Nq s0 s') :=
  ⟨fun z0 z1 z2 z3 z4 z5 z6 z7 z8 f => Nq s0 f, h, fun _ _ _ _ _ _ _ _ _ _ h => nl_196_72 (fun _ _ _ _ _ _ _ _ _ _ q => q)  h⟩
theorem nl_196_0 {d : Nat} {s0 : yS}    {a1 : Int32} {a2 : Int32} {a3 : Int32} {a4 : Int32} {a5 : Int32}  {s : yS} (h : Nq s0 s) : ub_196_0 (Par d)  a1 a2 a3 a4 a5 s (fun v s' => (∃ x : Int32, v = some (.int x)) ∧ Nq s0 s') := by
  unfold ub_196_0
  intro _
  intro _
  constructor
  · intro _
    refine Par.imp (nl_188) ?_
    rintro v2 s1 ⟨⟨x3, rfl⟩, h1⟩
    refine ⟨x3, rfl, ?_⟩
    have h3 := nq_tr h h1
    intro _
    intro x4 _
    intro _
    intro x5 _
    refine Par.imp (nl_189) ?_
    rintro v7 s6 ⟨rfl, h4⟩
    refine ⟨rfl, ?_⟩
    have h6 := nq_tr h3 h4
    intro _
    intro x8 _
    intro _
    intro x9 _
    intro _
    intro x10 _
    intro _
    intro x11 _
    intro _
    refine Par.imp (nl_190) ?_
    rintro v13 s12 ⟨rfl, h7⟩
    refine ⟨rfl, ?_⟩
    have h9 := nq_tr h6 h7
    refine Par.imp (nl_188) ?_
    rintro v15 s14 ⟨⟨x16, rfl⟩, h10⟩
    refine ⟨x16, rfl, ?_⟩
    have h12 := nq_tr h9 h10
    refine Par.imp (nl_189) ?_
    rintro v18 s17 ⟨rfl, h13⟩
    refine ⟨rfl, ?_⟩
    have h15 := nq_tr h12 h13
    intro _
    intro x19 _
    intro _
    intro x20 _
    intro _
    intro x21 _
    intro _
    intro x22 _
    intro _
    refine Par.imp (nl_190) ?_
    rintro v24 s23 ⟨rfl, h16⟩
    refine ⟨rfl, ?_⟩
    have h18 := nq_tr h15 h16
    exact nm_196_72 h18
  · intro _
    exact ⟨⟨_, rfl⟩, h⟩
theorem nl_196 {d : Nat} {a1 : Int32} {a2 : Int32} {a3 : Int32} {a4 : Int32} {a5 : Int32} {s : yS}  : Par d 196 [.ref 213, .int a1, .int a2, .int a3, .int a4, .int a5] s (fun v s' => (∃ x : Int32, v = some (.int x)) ∧ Nq s s') := by
  cases d with
  | zero => exact Par_0
  | succ d => exact pb_196 (nl_196_0  ⟨rfl, rfl⟩)
theorem nl_195_103 {d : Nat} {s0 : yS}    {a1 : Int32} {a2 : Int32} {a3 : Int32} {a4 : Int32} {a5 : Int32} {a6 : Int32} {a7 : Int32} {a8 : Int32} {a9 : Int32} {a10 : Int32}  {s : yS} (h : Nq s0 s) : ub_195_103 (Par d)  a1 a2 a3 a4 a5 a6 a7 a8 a9 a10 s (fun v s' => (∃ x : Int32, v = some (.int x)) ∧ Nq s0 s') := by
  unfold ub_195_103
  intro s1 e1
  have h2 := nq_sf e1 h
  exact ⟨⟨_, rfl⟩, h2⟩
theorem nl_195_100 {d : Nat} {s0 : yS}  {R63 : Int32 → Int32 → Int32 → Int32 → Int32 → Int32 → Int32 → Int32 → Int32 → Int32 → yS → Prop} (hR63 : ∀ (b0 : Int32) (b1 : Int32) (b2 : Int32) (b3 : Int32) (b4 : Int32) (b5 : Int32) (b6 : Int32) (b7 : Int32) (b8 : Int32) (b9 : Int32) (f : yS), Nq s0 f → R63 b0 b1 b2 b3 b4 b5 b6 b7 b8 b9 f) {a1 : Int32} {a2 : Int32} {a3 : Int32} {a4 : Int32} {a5 : Int32} {a6 : Int32} {a7 : Int32} {a8 : Int32} {a9 : Int32} {a10 : Int32} {a11 : Int32} {t0 : Int32}  {s : yS} (h : Nq s0 s) : ub_195_100 (Par d) R63 a1 a2 a3 a4 a5 a6 a7 a8 a9 a10 a11 t0 s (fun v s' => (∃ x : Int32, v = some (.int x)) ∧ Nq s0 s') := by
  unfold ub_195_100
  intro _
  intro x1 _
  exact hR63 _ _ _ _ _ _ _ _ _ _ _ h
theorem nl_195_63 {d : Nat} {s0 : yS}  {R63 : Int32 → Int32 → Int32 → Int32 → Int32 → Int32 → Int32 → Int32 → Int32 → Int32 → yS → Prop} (hR63 : ∀ (b0 : Int32) (b1 : Int32) (b2 : Int32) (b3 : Int32) (b4 : Int32) (b5 : Int32) (b6 : Int32) (b7 : Int32) (b8 : Int32) (b9 : Int32) (f : yS), Nq s0 f → R63 b0 b1 b2 b3 b4 b5 b6 b7 b8 b9 f) {a1 : Int32} {a2 : Int32} {a3 : Int32} {a4 : Int32} {a5 : Int32} {a6 : Int32} {a7 : Int32} {a8 : Int32} {a9 : Int32} {a10 : Int32}  {s : yS} (h : Nq s0 s) : ub_195_63 (Par d) R63 a1 a2 a3 a4 a5 a6 a7 a8 a9 a10 s (fun v s' => (∃ x : Int32, v = some (.int x)) ∧ Nq s0 s') := by
  unfold ub_195_63
  intro _
  constructor
  · intro _
    exact nl_195_103 h
  · intro _
    constructor
    · intro _
      exact nl_195_103 h
    · intro _
      intro _
      intro _
      intro x1 _
      intro _
      intro _
      refine Par.imp (nl_193) ?_
      rintro v3 s2 ⟨⟨x4, rfl⟩, h1⟩
      refine ⟨x4, rfl, ?_⟩
      have h3 := nq_tr h h1
      constructor
      · intro _
        exact nl_195_100 hR63 h3
      · intro _
        refine Par.imp (nl_196) ?_
        rintro v6 s5 ⟨⟨x7, rfl⟩, h4⟩
        refine ⟨x7, rfl, ?_⟩
        have h6 := nq_tr h3 h4
        exact nl_195_100 hR63 h6
theorem nm_195_63 {d : Nat} {s0 : yS}    {a1 : Int32} {a2 : Int32} {a3 : Int32} {a4 : Int32} {a5 : Int32} {a6 : Int32} {a7 : Int32} {a8 : Int32} {a9 : Int32} {a10 : Int32}  {s : yS} (h : Nq s0 s) : ubl_195_63 (Par d)  a1 a2 a3 a4 a5 a6 a7 a8 a9 a10 s (fun v s' => (∃ x : Int32, v = some (.int x)) ∧ Nq s0 s') :=
  ⟨fun z0 z1 z2 z3 z4 z5 z6 z7 z8 z9 f => Nq s0 f, h, fun _ _ _ _ _ _ _ _ _ _ _ h => nl_195_63 (fun _ _ _ _ _ _ _ _ _ _ _ q => q)  h⟩
theorem nl_195_52 {d : Nat} {s0 : yS}    {a1 : Int32} {a2 : Int32} {a3 : Int32} {a4 : Int32} {a5 : Int32} {a6 : Int32} {a7 : Int32}  {s : yS} (h : Nq s0 s) : ub_195_52 (Par d)  a1 a2 a3 a4 a5 a6 a7 s (fun v s' => (∃ x : Int32, v = some (.int x)) ∧ Nq s0 s') := by
  unfold ub_195_52
  intro _
  intro x1 _
  intro _
  intro x2 _
  exact nm_195_63 h
theorem nl_195_29 {d : Nat} {s0 : yS}    {a1 : Int32} {a2 : Int32} {a3 : Int32} {a4 : Int32} {a5 : Int32} {t0 : Int32}  {s : yS} (h : Nq s0 s) : ub_195_29 (Par d)  a1 a2 a3 a4 a5 t0 s (fun v s' => (∃ x : Int32, v = some (.int x)) ∧ Nq s0 s') := by
  unfold ub_195_29
  exact ⟨⟨_, rfl⟩, h⟩
theorem nl_195_19 {d : Nat} {s0 : yS}    {a1 : Int32} {a2 : Int32} {a3 : Int32} {a4 : Int32} {a5 : Int32}  {s : yS} (h : Nq s0 s) : ub_195_19 (Par d)  a1 a2 a3 a4 a5 s (fun v s' => (∃ x : Int32, v = some (.int x)) ∧ Nq s0 s') := by
  unfold ub_195_19
  refine Par.imp (nl_187) ?_
  rintro v2 s1 ⟨⟨x3, rfl⟩, h1⟩
  refine ⟨x3, rfl, ?_⟩
  have h3 := nq_tr h h1
  constructor
  · intro _
    exact nl_195_29 h3
  · intro _
    exact nl_195_29 h3
theorem nl_195_0 {d : Nat} {s0 : yS}    {a1 : Int32} {a2 : Int32} {a3 : Int32} {a4 : Int32}  {s : yS} (h : Nq s0 s) : ub_195_0 (Par d)  a1 a2 a3 a4 s (fun v s' => (∃ x : Int32, v = some (.int x)) ∧ Nq s0 s') := by
  unfold ub_195_0
  intro _
  refine Par.imp (nl_185) ?_
  rintro v2 s1 ⟨⟨x3, rfl⟩, h1⟩
  refine ⟨x3, rfl, ?_⟩
  have h3 := nq_tr h h1
  constructor
  · intro _
    exact nl_195_19 h3
  · intro _
    intro _
    intro x4 _
    intro _
    intro x5 _
    intro _
    constructor
    · intro _
      intro _
      refine Par.imp (nl_185) ?_
      rintro v7 s6 ⟨⟨x8, rfl⟩, h4⟩
      refine ⟨x8, rfl, ?_⟩
      have h6 := nq_tr h3 h4
      constructor
      · intro _
        exact nl_195_52 h6
      · intro _
        intro _
        refine Par.imp (nl_185) ?_
        rintro v10 s9 ⟨⟨x11, rfl⟩, h7⟩
        refine ⟨x11, rfl, ?_⟩
        have h9 := nq_tr h6 h7
        refine Par.imp (nl_194) ?_
        rintro v13 s12 ⟨rfl, h10⟩
        refine ⟨rfl, ?_⟩
        have h12 := nq_tr h9 h10
        exact nl_195_52 h12
    · intro _
      exact nl_195_19 h3
theorem nl_195 {d : Nat} {a1 : Int32} {a2 : Int32} {a3 : Int32} {a4 : Int32} {s : yS}  : Par d 195 [.ref 213, .int a1, .int a2, .int a3, .int a4] s (fun v s' => (∃ x : Int32, v = some (.int x)) ∧ Nq s s') := by
  cases d with
  | zero => exact Par_0
  | succ d => exact pb_195 (nl_195_0  ⟨rfl, rfl⟩)
theorem nl_198_25 {d : Nat} {s0 : yS}  {R4 : Int32 → Nat → Int32 → Int32 → Int32 → Int32 → yS → Prop} (hR4 : ∀ (b0 : Int32) (b1 : Nat) (b2 : Int32) (b3 : Int32) (b4 : Int32) (b5 : Int32) (f : yS), yQ7 b1 → Nq s0 f → R4 b0 b1 b2 b3 b4 b5 f) {a1 : Int32} {a2 : Nat} {a3 : Int32} {a4 : Int32} {a5 : Int32} {a6 : Int32} {t0 : Int32} (pa2 : yQ7 a2) {s : yS} (h : Nq s0 s) : ub_198_25 (Par d) R4 a1 a2 a3 a4 a5 a6 t0 s (fun v s' => (∃ x : Int32, v = some (.int x)) ∧ Nq s0 s') := by
  unfold ub_198_25
  intro _
  intro x1 _
  exact hR4 _ _ _ _ _ _ _ pa2 h
theorem nl_198_22 {d : Nat} {s0 : yS}  {R4 : Int32 → Nat → Int32 → Int32 → Int32 → Int32 → yS → Prop} (hR4 : ∀ (b0 : Int32) (b1 : Nat) (b2 : Int32) (b3 : Int32) (b4 : Int32) (b5 : Int32) (f : yS), yQ7 b1 → Nq s0 f → R4 b0 b1 b2 b3 b4 b5 f) {a1 : Int32} {a2 : Nat} {a3 : Int32} {a4 : Int32} {a5 : Int32} {a6 : Int32} (pa2 : yQ7 a2) {s : yS} (h : Nq s0 s) : ub_198_22 (Par d) R4 a1 a2 a3 a4 a5 a6 s (fun v s' => (∃ x : Int32, v = some (.int x)) ∧ Nq s0 s') := by
  unfold ub_198_22
  exact nl_198_25 hR4 pa2 h
theorem nl_198_4 {d : Nat} {s0 : yS}  {R4 : Int32 → Nat → Int32 → Int32 → Int32 → Int32 → yS → Prop} (hR4 : ∀ (b0 : Int32) (b1 : Nat) (b2 : Int32) (b3 : Int32) (b4 : Int32) (b5 : Int32) (f : yS), yQ7 b1 → Nq s0 f → R4 b0 b1 b2 b3 b4 b5 f) {a1 : Int32} {a2 : Nat} {a3 : Int32} {a4 : Int32} {a5 : Int32} {a6 : Int32} (pa2 : yQ7 a2) {s : yS} (h : Nq s0 s) : ub_198_4 (Par d) R4 a1 a2 a3 a4 a5 a6 s (fun v s' => (∃ x : Int32, v = some (.int x)) ∧ Nq s0 s') := by
  unfold ub_198_4
  constructor
  · intro _
    intro _
    exact ⟨⟨_, rfl⟩, h⟩
  · intro _
    constructor
    · intro _
      exact nl_198_22 hR4 pa2 h
    · intro _
      intro _
      intro x1 _
      obtain ⟨n1, e2⟩ := yq_ok pa2
      refine ⟨n1, e2, ?_⟩
      intro _
      intro _
      intro _
      constructor
      · intro _
        exact nl_198_25 hR4 pa2 h
      · intro _
        exact nl_198_22 hR4 pa2 h
theorem nm_198_4 {d : Nat} {s0 : yS}    {a1 : Int32} {a2 : Nat} {a3 : Int32} {a4 : Int32} {a5 : Int32} {a6 : Int32} (pa2 : yQ7 a2) {s : yS} (h : Nq s0 s) : ubl_198_4 (Par d)  a1 a2 a3 a4 a5 a6 s (fun v s' => (∃ x : Int32, v = some (.int x)) ∧ Nq s0 s') :=
  ⟨fun z0 z1 z2 z3 z4 z5 f => yQ7 z1 ∧ Nq s0 f, ⟨pa2, h⟩, fun _ _ _ _ _ _ _ ⟨w1, h⟩ => nl_198_4 (fun _ _ _ _ _ _ _ w1 q => ⟨w1, q⟩) w1 h⟩
theorem nl_198_0 {d : Nat} {s0 : yS}    {a1 : Int32} {a2 : Nat} {a3 : Int32} {a4 : Int32} (pa2 : yQ7 a2) {s : yS} (h : Nq s0 s) : ub_198_0 (Par d)  a1 a2 a3 a4 s (fun v s' => (∃ x : Int32, v = some (.int x)) ∧ Nq s0 s') := by
  unfold ub_198_0
  exact nm_198_4 pa2 h
theorem nl_198 {d : Nat} {a1 : Int32} {a2 : Nat} {a3 : Int32} {a4 : Int32} {s : yS} (pa2 : yQ7 a2) : Par d 198 [.ref 213, .int a1, .ref a2, .int a3, .int a4] s (fun v s' => (∃ x : Int32, v = some (.int x)) ∧ Nq s s') := by
  cases d with
  | zero => exact Par_0
  | succ d => exact pb_198 (nl_198_0 pa2 ⟨rfl, rfl⟩)
theorem nl_200_27 {d : Nat} {s0 : yS}  {R9 : Int32 → Int32 → Int32 → Int32 → yS → Prop} (hR9 : ∀ (b0 : Int32) (b1 : Int32) (b2 : Int32) (b3 : Int32) (f : yS), Nq s0 f → R9 b0 b1 b2 b3 f) {a1 : Int32} {a2 : Int32} {a3 : Int32} {a4 : Int32} {t0 : Int32}  {s : yS} (h : Nq s0 s) : ub_200_27 (Par d) R9 a1 a2 a3 a4 t0 s (fun v s' => (∃ x : Int32, v = some (.int x)) ∧ Nq s0 s') := by
  unfold ub_200_27
  intro _
  intro x1 _
  exact hR9 _ _ _ _ _ h
theorem nl_200_9 {d : Nat} {s0 : yS}  {R9 : Int32 → Int32 → Int32 → Int32 → yS → Prop} (hR9 : ∀ (b0 : Int32) (b1 : Int32) (b2 : Int32) (b3 : Int32) (f : yS), Nq s0 f → R9 b0 b1 b2 b3 f) {a1 : Int32} {a2 : Int32} {a3 : Int32} {a4 : Int32}  {s : yS} (h : Nq s0 s) : ub_200_9 (Par d) R9 a1 a2 a3 a4 s (fun v s' => (∃ x : Int32, v = some (.int x)) ∧ Nq s0 s') := by
  unfold ub_200_9
  constructor
  · intro _
    exact ⟨⟨_, rfl⟩, h⟩
  · intro _
    intro _
    intro _
    intro x1 _
    intro _
    intro x2 _
    intro _
    constructor
    · intro _
      exact nl_200_27 hR9 h
    · intro _
      exact nl_200_27 hR9 h
theorem nm_200_9 {d : Nat} {s0 : yS}    {a1 : Int32} {a2 : Int32} {a3 : Int32} {a4 : Int32}  {s : yS} (h : Nq s0 s) : ubl_200_9 (Par d)  a1 a2 a3 a4 s (fun v s' => (∃ x : Int32, v = some (.int x)) ∧ Nq s0 s') :=
  ⟨fun z0 z1 z2 z3 f => Nq s0 f, h, fun _ _ _ _ _ h => nl_200_9 (fun _ _ _ _ _ q => q)  h⟩
theorem nl_200_0 {d : Nat} {s0 : yS}    {a1 : Int32} {a2 : Int32}  {s : yS} (h : Nq s0 s) : ub_200_0 (Par d)  a1 a2 s (fun v s' => (∃ x : Int32, v = some (.int x)) ∧ Nq s0 s') := by
  unfold ub_200_0
  intro _
  intro _
  intro x1 _
  exact nm_200_9 h
theorem nl_200 {d : Nat} {a1 : Int32} {a2 : Int32} {s : yS}  : Par d 200 [.ref 213, .int a1, .int a2] s (fun v s' => (∃ x : Int32, v = some (.int x)) ∧ Nq s s') := by
  cases d with
  | zero => exact Par_0
  | succ d => exact pb_200 (nl_200_0  ⟨rfl, rfl⟩)
theorem nl_199_38 {d : Nat} {s0 : yS}  {R2 : Nat → Int32 → Int32 → Int32 → Int32 → yS → Prop} (hR2 : ∀ (b0 : Nat) (b1 : Int32) (b2 : Int32) (b3 : Int32) (b4 : Int32) (f : yS), yQ7 b0 → Nq s0 f → R2 b0 b1 b2 b3 b4 f) {a1 : Nat} {a2 : Int32} {a3 : Int32} {a4 : Int32} {a5 : Int32} (pa1 : yQ7 a1) {s : yS} (h : Nq s0 s) : ub_199_38 (Par d) R2 a1 a2 a3 a4 a5 s (fun v s' => (v = none) ∧ Nq s0 s') := by
  unfold ub_199_38
  intro _
  intro x1 _
  exact hR2 _ _ _ _ _ _ pa1 h
theorem nl_199_30 {d : Nat} {s0 : yS}  {R2 : Nat → Int32 → Int32 → Int32 → Int32 → yS → Prop} (hR2 : ∀ (b0 : Nat) (b1 : Int32) (b2 : Int32) (b3 : Int32) (b4 : Int32) (f : yS), yQ7 b0 → Nq s0 f → R2 b0 b1 b2 b3 b4 f) {a1 : Nat} {a2 : Int32} {a3 : Int32} {a4 : Int32} {a5 : Int32} (pa1 : yQ7 a1) {s : yS} (h : Nq s0 s) : ub_199_30 (Par d) R2 a1 a2 a3 a4 a5 s (fun v s' => (v = none) ∧ Nq s0 s') := by
  unfold ub_199_30
  intro _
  intro x1 _
  obtain ⟨n1, e2⟩ := yq_ok pa1
  refine ⟨n1, e2, ?_⟩
  intro _
  refine Par.imp (nl_163) ?_
  rintro v3 s2 ⟨rfl, h3⟩
  refine ⟨rfl, ?_⟩
  have h5 := nq_tr h h3
  exact nl_199_38 hR2 pa1 h5
theorem nl_199_2 {d : Nat} {s0 : yS}  {R2 : Nat → Int32 → Int32 → Int32 → Int32 → yS → Prop} (hR2 : ∀ (b0 : Nat) (b1 : Int32) (b2 : Int32) (b3 : Int32) (b4 : Int32) (f : yS), yQ7 b0 → Nq s0 f → R2 b0 b1 b2 b3 b4 f) {a1 : Nat} {a2 : Int32} {a3 : Int32} {a4 : Int32} {a5 : Int32} (pa1 : yQ7 a1) {s : yS} (h : Nq s0 s) : ub_199_2 (Par d) R2 a1 a2 a3 a4 a5 s (fun v s' => (v = none) ∧ Nq s0 s') := by
  unfold ub_199_2
  constructor
  · intro _
    exact ⟨rfl, h⟩
  · intro _
    intro _
    intro x1 _
    obtain ⟨n1, e2⟩ := yq_ok pa1
    refine ⟨n1, e2, ?_⟩
    intro _
    refine Par.imp (nl_198 pa1) ?_
    rintro v3 s2 ⟨⟨x4, rfl⟩, h3⟩
    refine ⟨x4, rfl, ?_⟩
    have h5 := nq_tr h h3
    constructor
    · intro _
      exact nl_199_30 hR2 pa1 h5
    · intro _
      constructor
      · intro _
        exact nl_199_38 hR2 pa1 h5
      · intro _
        intro _
        intro x5 _
        obtain ⟨n6, e7⟩ := yq_ok pa1
        refine ⟨n6, e7, ?_⟩
        intro _
        intro _
        refine Par.imp (nl_200) ?_
        rintro v7 s6 ⟨⟨x8, rfl⟩, h8⟩
        refine ⟨x8, rfl, ?_⟩
        have h10 := nq_tr h5 h8
        constructor
        · intro _
          exact nl_199_38 hR2 pa1 h10
        · intro _
          exact nl_199_30 hR2 pa1 h10
theorem nm_199_2 {d : Nat} {s0 : yS}    {a1 : Nat} {a2 : Int32} {a3 : Int32} {a4 : Int32} {a5 : Int32} (pa1 : yQ7 a1) {s : yS} (h : Nq s0 s) : ubl_199_2 (Par d)  a1 a2 a3 a4 a5 s (fun v s' => (v = none) ∧ Nq s0 s') :=
  ⟨fun z0 z1 z2 z3 z4 f => yQ7 z0 ∧ Nq s0 f, ⟨pa1, h⟩, fun _ _ _ _ _ _ ⟨w0, h⟩ => nl_199_2 (fun _ _ _ _ _ _ w0 q => ⟨w0, q⟩) w0 h⟩
theorem nl_199_0 {d : Nat} {s0 : yS}    {a1 : Nat} {a2 : Int32} {a3 : Int32} {a4 : Int32} (pa1 : yQ7 a1) {s : yS} (h : Nq s0 s) : ub_199_0 (Par d)  a1 a2 a3 a4 s (fun v s' => (v = none) ∧ Nq s0 s') := by
  unfold ub_199_0
  exact nm_199_2 pa1 h
theorem nl_199 {d : Nat} {a1 : Nat} {a2 : Int32} {a3 : Int32} {a4 : Int32} {s : yS} (pa1 : yQ7 a1) : Par d 199 [.ref 213, .ref a1, .int a2, .int a3, .int a4] s (fun v s' => (v = none) ∧ Nq s s') := by
  cases d with
  | zero => exact Par_0
  | succ d => exact pb_199 (nl_199_0 pa1 ⟨rfl, rfl⟩)
theorem nl_201_91 {d : Nat} {s0 : yS}  {R54 : Int32 → Int32 → Int32 → yS → Prop} (hR54 : ∀ (b0 : Int32) (b1 : Int32) (b2 : Int32) (f : yS), Nq s0 f → R54 b0 b1 b2 f) {a1 : Int32} {a2 : Int32} {a3 : Int32}  {s : yS} (h : Nq s0 s) : ub_201_91 (Par d) R54 a1 a2 a3 s (fun v s' => (v = none) ∧ Nq s0 s') := by
  unfold ub_201_91
  intro _
  intro x1 _
  intro _
  refine Par.imp (nl_199 (by unfold yQ7; decide)) ?_
  rintro v3 s2 ⟨rfl, h1⟩
  refine ⟨rfl, ?_⟩
  have h3 := nq_tr h h1
  intro _
  intro x4 _
  exact hR54 _ _ _ _ h3
theorem nl_201_54 {d : Nat} {s0 : yS}  {R54 : Int32 → Int32 → Int32 → yS → Prop} (hR54 : ∀ (b0 : Int32) (b1 : Int32) (b2 : Int32) (f : yS), Nq s0 f → R54 b0 b1 b2 f) {a1 : Int32} {a2 : Int32} {a3 : Int32}  {s : yS} (h : Nq s0 s) : ub_201_54 (Par d) R54 a1 a2 a3 s (fun v s' => (v = none) ∧ Nq s0 s') := by
  unfold ub_201_54
  intro _
  intro _
  intro _
  intro x1 _
  constructor
  · intro _
    exact ⟨rfl, h⟩
  · intro _
    intro _
    intro _
    intro _
    intro _
    intro x2 _
    refine Par.imp (nl_198 (by unfold yQ7; decide)) ?_
    rintro v4 s3 ⟨⟨x5, rfl⟩, h1⟩
    refine ⟨x5, rfl, ?_⟩
    have h3 := nq_tr h h1
    constructor
    · intro _
      exact nl_201_91 hR54 h3
    · intro _
      intro _
      refine Par.imp (nl_163) ?_
      rintro v7 s6 ⟨rfl, h4⟩
      refine ⟨rfl, ?_⟩
      have h6 := nq_tr h3 h4
      exact nl_201_91 hR54 h6
theorem nm_201_54 {d : Nat} {s0 : yS}    {a1 : Int32} {a2 : Int32} {a3 : Int32}  {s : yS} (h : Nq s0 s) : ubl_201_54 (Par d)  a1 a2 a3 s (fun v s' => (v = none) ∧ Nq s0 s') :=
  ⟨fun z0 z1 z2 f => Nq s0 f, h, fun _ _ _ _ h => nl_201_54 (fun _ _ _ _ q => q)  h⟩
theorem nl_201_25 {d : Nat} {s0 : yS}    {a1 : Int32} {a2 : Int32}  {s : yS} (h : Nq s0 s) : ub_201_25 (Par d)  a1 a2 s (fun v s' => (v = none) ∧ Nq s0 s') := by
  unfold ub_201_25
  intro _
  intro x1 _
  intro _
  refine Par.imp (nl_199 (by unfold yQ7; decide)) ?_
  rintro v3 s2 ⟨rfl, h1⟩
  refine ⟨rfl, ?_⟩
  have h3 := nq_tr h h1
  intro _
  intro x4 _
  intro _
  refine Par.imp (nl_199 (by unfold yQ7; decide)) ?_
  rintro v6 s5 ⟨rfl, h4⟩
  refine ⟨rfl, ?_⟩
  have h6 := nq_tr h3 h4
  intro _
  exact nm_201_54 h6
theorem nl_201_0 {d : Nat} {s0 : yS}    {a1 : Int32}  {s : yS} (h : Nq s0 s) : ub_201_0 (Par d)  a1 s (fun v s' => (v = none) ∧ Nq s0 s') := by
  unfold ub_201_0
  intro _
  intro x1 _
  intro _
  intro _
  intro x2 _
  refine Par.imp (nl_198 (by unfold yQ7; decide)) ?_
  rintro v4 s3 ⟨⟨x5, rfl⟩, h1⟩
  refine ⟨x5, rfl, ?_⟩
  have h3 := nq_tr h h1
  constructor
  · intro _
    exact nl_201_25 h3
  · intro _
    intro _
    refine Par.imp (nl_163) ?_
    rintro v7 s6 ⟨rfl, h4⟩
    refine ⟨rfl, ?_⟩
    have h6 := nq_tr h3 h4
    exact nl_201_25 h6
theorem nl_201 {d : Nat} {a1 : Int32} {s : yS}  : Par d 201 [.ref 213, .int a1] s (fun v s' => (v = none) ∧ Nq s s') := by
  cases d with
  | zero => exact Par_0
  | succ d => exact pb_201 (nl_201_0  ⟨rfl, rfl⟩)
theorem nl_202_173 {d : Nat} {s0 : yS}  {R120 : Int32 → Int32 → Int32 → yS → Prop} (hR120 : ∀ (b0 : Int32) (b1 : Int32) (b2 : Int32) (f : yS), Nq s0 f → R120 b0 b1 b2 f) {a1 : Int32} {a2 : Int32} {a3 : Int32}  {s : yS} (h : Nq s0 s) : ub_202_173 (Par d) R120 a1 a2 a3 s (fun v s' => (v = none) ∧ Nq s0 s') := by
  unfold ub_202_173
  intro _
  intro x1 _
  exact hR120 _ _ _ _ h
theorem nl_202_162 {d : Nat} {s0 : yS}  {R120 : Int32 → Int32 → Int32 → yS → Prop} (hR120 : ∀ (b0 : Int32) (b1 : Int32) (b2 : Int32) (f : yS), Nq s0 f → R120 b0 b1 b2 f) {a1 : Int32} {a2 : Int32} {a3 : Int32}  {s : yS} (h : Nq s0 s) : ub_202_162 (Par d) R120 a1 a2 a3 s (fun v s' => (v = none) ∧ Nq s0 s') := by
  unfold ub_202_162
  intro _
  intro x1 _
  intro _
  intro x2 _
  intro _
  refine Par.imp (nl_163) ?_
  rintro v4 s3 ⟨rfl, h1⟩
  refine ⟨rfl, ?_⟩
  have h3 := nq_tr h h1
  exact nl_202_173 hR120 h3
theorem nl_202_120 {d : Nat} {s0 : yS}  {R120 : Int32 → Int32 → Int32 → yS → Prop} (hR120 : ∀ (b0 : Int32) (b1 : Int32) (b2 : Int32) (f : yS), Nq s0 f → R120 b0 b1 b2 f) {a1 : Int32} {a2 : Int32} {a3 : Int32}  {s : yS} (h : Nq s0 s) : ub_202_120 (Par d) R120 a1 a2 a3 s (fun v s' => (v = none) ∧ Nq s0 s') := by
  unfold ub_202_120
  intro _
  constructor
  · intro _
    exact ⟨rfl, h⟩
  · intro _
    intro _
    intro x1 _
    intro _
    intro x2 _
    intro _
    intro _
    intro _
    intro _
    constructor
    · intro _
      exact nl_202_162 hR120 h
    · intro _
      intro _
      intro x3 _
      intro _
      intro x4 _
      intro _
      intro _
      intro x5 _
      refine Par.imp (nl_198 (by unfold yQ7; decide)) ?_
      rintro v7 s6 ⟨⟨x8, rfl⟩, h1⟩
      refine ⟨x8, rfl, ?_⟩
      have h3 := nq_tr h h1
      constructor
      · intro _
        exact nl_202_173 hR120 h3
      · intro _
        exact nl_202_162 hR120 h3
theorem nm_202_120 {d : Nat} {s0 : yS}    {a1 : Int32} {a2 : Int32} {a3 : Int32}  {s : yS} (h : Nq s0 s) : ubl_202_120 (Par d)  a1 a2 a3 s (fun v s' => (v = none) ∧ Nq s0 s') :=
  ⟨fun z0 z1 z2 f => Nq s0 f, h, fun _ _ _ _ h => nl_202_120 (fun _ _ _ _ q => q)  h⟩
theorem nl_202_104 {d : Nat} {s0 : yS}  {R61 : Int32 → Int32 → Int32 → yS → Prop} (hR61 : ∀ (b0 : Int32) (b1 : Int32) (b2 : Int32) (f : yS), Nq s0 f → R61 b0 b1 b2 f) {a1 : Int32} {a2 : Int32} {a3 : Int32}  {s : yS} (h : Nq s0 s) : ub_202_104 (Par d) R61 a1 a2 a3 s (fun v s' => (v = none) ∧ Nq s0 s') := by
  unfold ub_202_104
  intro _
  intro x1 _
  exact hR61 _ _ _ _ h
theorem nl_202_61 {d : Nat} {s0 : yS}  {R61 : Int32 → Int32 → Int32 → yS → Prop} (hR61 : ∀ (b0 : Int32) (b1 : Int32) (b2 : Int32) (f : yS), Nq s0 f → R61 b0 b1 b2 f) {a1 : Int32} {a2 : Int32} {a3 : Int32}  {s : yS} (h : Nq s0 s) : ub_202_61 (Par d) R61 a1 a2 a3 s (fun v s' => (v = none) ∧ Nq s0 s') := by
  unfold ub_202_61
  constructor
  · intro _
    intro _
    intro x1 _
    intro _
    refine Par.imp (nl_199 (by unfold yQ7; decide)) ?_
    rintro v3 s2 ⟨rfl, h1⟩
    refine ⟨rfl, ?_⟩
    have h3 := nq_tr h h1
    exact nm_202_120 h3
  · intro _
    intro _
    intro _
    intro _
    intro _
    constructor
    · intro _
      exact nl_202_104 hR61 h
    · intro _
      intro _
      intro _
      intro _
      intro _
      intro _
      constructor
      · intro _
        exact nl_202_104 hR61 h
      · intro _
        intro _
        refine Par.imp (nl_163) ?_
        rintro v5 s4 ⟨rfl, h4⟩
        refine ⟨rfl, ?_⟩
        have h6 := nq_tr h h4
        exact nl_202_104 hR61 h6
theorem nm_202_61 {d : Nat} {s0 : yS}    {a1 : Int32} {a2 : Int32} {a3 : Int32}  {s : yS} (h : Nq s0 s) : ubl_202_61 (Par d)  a1 a2 a3 s (fun v s' => (v = none) ∧ Nq s0 s') :=
  ⟨fun z0 z1 z2 f => Nq s0 f, h, fun _ _ _ _ h => nl_202_61 (fun _ _ _ _ q => q)  h⟩
theorem nl_202_47 {d : Nat} {s0 : yS}  {R2 : Int32 → Int32 → yS → Prop} {R10 : Int32 → Int32 → Int32 → yS → Prop} (hR2 : ∀ (b0 : Int32) (b1 : Int32) (f : yS), Nq s0 f → R2 b0 b1 f) (hR10 : ∀ (b0 : Int32) (b1 : Int32) (b2 : Int32) (f : yS), Nq s0 f → R10 b0 b1 b2 f) {a1 : Int32} {a2 : Int32} {a3 : Int32}  {s : yS} (h : Nq s0 s) : ub_202_47 (Par d) R2 R10 a1 a2 a3 s (fun v s' => (v = none) ∧ Nq s0 s') := by
  unfold ub_202_47
  intro _
  intro x1 _
  exact hR10 _ _ _ _ h
theorem nl_202_10 {d : Nat} {s0 : yS}  {R2 : Int32 → Int32 → yS → Prop} {R10 : Int32 → Int32 → Int32 → yS → Prop} (hR2 : ∀ (b0 : Int32) (b1 : Int32) (f : yS), Nq s0 f → R2 b0 b1 f) (hR10 : ∀ (b0 : Int32) (b1 : Int32) (b2 : Int32) (f : yS), Nq s0 f → R10 b0 b1 b2 f) {a1 : Int32} {a2 : Int32} {a3 : Int32}  {s : yS} (h : Nq s0 s) : ub_202_10 (Par d) R2 R10 a1 a2 a3 s (fun v s' => (v = none) ∧ Nq s0 s') := by
  unfold ub_202_10
  constructor
  · intro _
    intro _
    intro x1 _
    exact hR2 _ _ _ h
  · intro _
    intro _
    intro _
    intro x2 _
    intro _
    intro x3 _
    intro _
    intro _
    intro _
    intro x4 _
    intro _
    intro x5 _
    intro _
    constructor
    · intro _
      exact nl_202_47 hR2 hR10 h
    · intro _
      intro _
      intro _
      intro x6 _
      intro _
      intro x7 _
      refine Par.imp (nl_163) ?_
      rintro v9 s8 ⟨rfl, h1⟩
      refine ⟨rfl, ?_⟩
      have h3 := nq_tr h h1
      exact nl_202_47 hR2 hR10 h3
theorem nm_202_10 {d : Nat} {s0 : yS}  {R2 : Int32 → Int32 → yS → Prop} (hR2 : ∀ (b0 : Int32) (b1 : Int32) (f : yS), Nq s0 f → R2 b0 b1 f) {a1 : Int32} {a2 : Int32} {a3 : Int32}  {s : yS} (h : Nq s0 s) : ubl_202_10 (Par d) R2 a1 a2 a3 s (fun v s' => (v = none) ∧ Nq s0 s') :=
  ⟨fun z0 z1 z2 f => Nq s0 f, h, fun _ _ _ _ h => nl_202_10 hR2 (fun _ _ _ _ q => q)  h⟩
theorem nl_202_2 {d : Nat} {s0 : yS}  {R2 : Int32 → Int32 → yS → Prop} (hR2 : ∀ (b0 : Int32) (b1 : Int32) (f : yS), Nq s0 f → R2 b0 b1 f) {a1 : Int32} {a2 : Int32}  {s : yS} (h : Nq s0 s) : ub_202_2 (Par d) R2 a1 a2 s (fun v s' => (v = none) ∧ Nq s0 s') := by
  unfold ub_202_2
  intro _
  constructor
  · intro _
    intro _
    intro _
    intro x1 _
    exact nm_202_61 h
  · intro _
    exact nm_202_10 hR2 h
theorem nm_202_2 {d : Nat} {s0 : yS}    {a1 : Int32} {a2 : Int32}  {s : yS} (h : Nq s0 s) : ubl_202_2 (Par d)  a1 a2 s (fun v s' => (v = none) ∧ Nq s0 s') :=
  ⟨fun z0 z1 f => Nq s0 f, h, fun _ _ _ h => nl_202_2 (fun _ _ _ q => q)  h⟩
theorem nl_202_0 {d : Nat} {s0 : yS}    {a1 : Int32}  {s : yS} (h : Nq s0 s) : ub_202_0 (Par d)  a1 s (fun v s' => (v = none) ∧ Nq s0 s') := by
  unfold ub_202_0
  exact nm_202_2 h
theorem nl_202 {d : Nat} {a1 : Int32} {s : yS}  : Par d 202 [.ref 213, .int a1] s (fun v s' => (v = none) ∧ Nq s s') := by
  cases d with
  | zero => exact Par_0
  | succ d => exact pb_202 (nl_202_0  ⟨rfl, rfl⟩)
theorem nl_203_113 {d : Nat} {s0 : yS}  {R113 : Int32 → Int32 → yS → Prop} (hR113 : ∀ (b0 : Int32) (b1 : Int32) (f : yS), Nq s0 f → R113 b0 b1 f) {a1 : Int32} {a2 : Int32}  {s : yS} (h : Nq s0 s) : ub_203_113 (Par d) R113 a1 a2 s (fun v s' => (∃ x : Int32, v = some (.int x)) ∧ Nq s0 s') := by
  unfold ub_203_113
  intro _
  constructor
  · intro _
    exact ⟨⟨_, rfl⟩, h⟩
  · intro _
    intro _
    intro x1 _
    intro _
    intro x2 _
    intro _
    intro _
    constructor
    · intro _
      intro _
      intro x3 _
      exact hR113 _ _ _ h
    · intro _
      exact ⟨⟨_, rfl⟩, h⟩
theorem nm_203_113 {d : Nat} {s0 : yS}    {a1 : Int32} {a2 : Int32}  {s : yS} (h : Nq s0 s) : ubl_203_113 (Par d)  a1 a2 s (fun v s' => (∃ x : Int32, v = some (.int x)) ∧ Nq s0 s') :=
  ⟨fun z0 z1 f => Nq s0 f, h, fun _ _ _ h => nl_203_113 (fun _ _ _ q => q)  h⟩
theorem nl_203_111 {d : Nat} {s0 : yS}    {a1 : Int32} {a2 : Int32}  {s : yS} (h : Nq s0 s) : ub_203_111 (Par d)  a1 a2 s (fun v s' => (∃ x : Int32, v = some (.int x)) ∧ Nq s0 s') := by
  unfold ub_203_111
  exact nm_203_113 h
theorem nl_203_84 {d : Nat} {s0 : yS}    {a1 : Int32} {a2 : Int32}  {s : yS} (h : Nq s0 s) : ub_203_84 (Par d)  a1 a2 s (fun v s' => (∃ x : Int32, v = some (.int x)) ∧ Nq s0 s') := by
  unfold ub_203_84
  constructor
  · intro _
    exact nl_203_111 h
  · intro _
    refine Par.imp (nl_200) ?_
    rintro v2 s1 ⟨⟨x3, rfl⟩, h1⟩
    refine ⟨x3, rfl, ?_⟩
    have h3 := nq_tr h h1
    constructor
    · intro _
      exact nl_203_111 h3
    · intro _
      intro _
      intro x4 _
      intro _
      intro x5 _
      intro _
      intro x6 _
      intro _
      intro x7 _
      refine Par.imp (nl_200) ?_
      rintro v9 s8 ⟨⟨x10, rfl⟩, h4⟩
      refine ⟨x10, rfl, ?_⟩
      have h6 := nq_tr h3 h4
      intro _
      intro x11 _
      exact ⟨⟨_, rfl⟩, h6⟩
theorem nl_203_44 {d : Nat} {s0 : yS}  {R44 : Int32 → Int32 → yS → Prop} (hR44 : ∀ (b0 : Int32) (b1 : Int32) (f : yS), Nq s0 f → R44 b0 b1 f) {a1 : Int32} {a2 : Int32}  {s : yS} (h : Nq s0 s) : ub_203_44 (Par d) R44 a1 a2 s (fun v s' => (∃ x : Int32, v = some (.int x)) ∧ Nq s0 s') := by
  unfold ub_203_44
  constructor
  · intro _
    exact nl_203_84 h
  · intro _
    intro _
    constructor
    · intro _
      exact nl_203_84 h
    · intro _
      intro _
      intro x1 _
      intro _
      intro x2 _
      intro _
      intro _
      constructor
      · intro _
        intro _
        intro x3 _
        exact hR44 _ _ _ h
      · intro _
        intro _
        intro x4 _
        intro _
        intro x5 _
        intro _
        intro x6 _
        intro _
        intro x7 _
        intro _
        intro x8 _
        exact ⟨⟨_, rfl⟩, h⟩
theorem nm_203_44 {d : Nat} {s0 : yS}    {a1 : Int32} {a2 : Int32}  {s : yS} (h : Nq s0 s) : ubl_203_44 (Par d)  a1 a2 s (fun v s' => (∃ x : Int32, v = some (.int x)) ∧ Nq s0 s') :=
  ⟨fun z0 z1 f => Nq s0 f, h, fun _ _ _ h => nl_203_44 (fun _ _ _ q => q)  h⟩
theorem nl_203_42 {d : Nat} {s0 : yS}    {a1 : Int32} {a2 : Int32}  {s : yS} (h : Nq s0 s) : ub_203_42 (Par d)  a1 a2 s (fun v s' => (∃ x : Int32, v = some (.int x)) ∧ Nq s0 s') := by
  unfold ub_203_42
  exact nm_203_44 h
theorem nl_203_2 {d : Nat} {s0 : yS}  {R2 : Int32 → Int32 → yS → Prop} (hR2 : ∀ (b0 : Int32) (b1 : Int32) (f : yS), Nq s0 f → R2 b0 b1 f) {a1 : Int32} {a2 : Int32}  {s : yS} (h : Nq s0 s) : ub_203_2 (Par d) R2 a1 a2 s (fun v s' => (∃ x : Int32, v = some (.int x)) ∧ Nq s0 s') := by
  unfold ub_203_2
  constructor
  · intro _
    exact nl_203_42 h
  · intro _
    intro _
    constructor
    · intro _
      exact nl_203_42 h
    · intro _
      intro _
      intro x1 _
      intro _
      intro x2 _
      intro _
      intro _
      constructor
      · intro _
        intro _
        intro x3 _
        exact hR2 _ _ _ h
      · intro _
        intro _
        intro x4 _
        intro _
        intro x5 _
        intro _
        intro x6 _
        intro _
        intro x7 _
        intro _
        intro x8 _
        exact ⟨⟨_, rfl⟩, h⟩
theorem nm_203_2 {d : Nat} {s0 : yS}    {a1 : Int32} {a2 : Int32}  {s : yS} (h : Nq s0 s) : ubl_203_2 (Par d)  a1 a2 s (fun v s' => (∃ x : Int32, v = some (.int x)) ∧ Nq s0 s') :=
  ⟨fun z0 z1 f => Nq s0 f, h, fun _ _ _ h => nl_203_2 (fun _ _ _ q => q)  h⟩
theorem nl_203_0 {d : Nat} {s0 : yS}    {a1 : Int32}  {s : yS} (h : Nq s0 s) : ub_203_0 (Par d)  a1 s (fun v s' => (∃ x : Int32, v = some (.int x)) ∧ Nq s0 s') := by
  unfold ub_203_0
  exact nm_203_2 h
theorem nl_203 {d : Nat} {a1 : Int32} {s : yS}  : Par d 203 [.ref 213, .int a1] s (fun v s' => (∃ x : Int32, v = some (.int x)) ∧ Nq s s') := by
  cases d with
  | zero => exact Par_0
  | succ d => exact pb_203 (nl_203_0  ⟨rfl, rfl⟩)
theorem nl_205_48 {d : Nat} {s0 : yS}  {R4 : Int32 → Int32 → Int32 → yS → Prop} (hR4 : ∀ (b0 : Int32) (b1 : Int32) (b2 : Int32) (f : yS), Nq s0 f → R4 b0 b1 b2 f) {a1 : Int32} {a2 : Int32} {a3 : Int32} {t0 : Int32}  {s : yS} (h : Nq s0 s) : ub_205_48 (Par d) R4 a1 a2 a3 t0 s (fun v s' => (∃ x : Int32, v = some (.int x)) ∧ Nq s0 s') := by
  unfold ub_205_48
  intro _
  intro x1 _
  exact hR4 _ _ _ _ h
theorem nl_205_47 {d : Nat} {s0 : yS}  {R4 : Int32 → Int32 → Int32 → yS → Prop} (hR4 : ∀ (b0 : Int32) (b1 : Int32) (b2 : Int32) (f : yS), Nq s0 f → R4 b0 b1 b2 f) {a1 : Int32} {a2 : Int32} {a3 : Int32}  {s : yS} (h : Nq s0 s) : ub_205_47 (Par d) R4 a1 a2 a3 s (fun v s' => (∃ x : Int32, v = some (.int x)) ∧ Nq s0 s') := by
  unfold ub_205_47
  exact nl_205_48 hR4 h
theorem nl_205_4 {d : Nat} {s0 : yS}  {R4 : Int32 → Int32 → Int32 → yS → Prop} (hR4 : ∀ (b0 : Int32) (b1 : Int32) (b2 : Int32) (f : yS), Nq s0 f → R4 b0 b1 b2 f) {a1 : Int32} {a2 : Int32} {a3 : Int32}  {s : yS} (h : Nq s0 s) : ub_205_4 (Par d) R4 a1 a2 a3 s (fun v s' => (∃ x : Int32, v = some (.int x)) ∧ Nq s0 s') := by
  unfold ub_205_4
  intro _
  constructor
  · intro _
    exact ⟨⟨_, rfl⟩, h⟩
  · intro _
    intro _
    intro x1 _
    intro _
    intro x2 _
    intro _
    intro _
    intro x3 _
    intro _
    constructor
    · intro _
      exact nl_205_47 hR4 h
    · intro _
      intro _
      intro x4 _
      intro _
      intro x5 _
      intro _
      intro _
      intro x6 _
      intro _
      constructor
      · intro _
        exact nl_205_47 hR4 h
      · intro _
        exact nl_205_48 hR4 h
theorem nm_205_4 {d : Nat} {s0 : yS}    {a1 : Int32} {a2 : Int32} {a3 : Int32}  {s : yS} (h : Nq s0 s) : ubl_205_4 (Par d)  a1 a2 a3 s (fun v s' => (∃ x : Int32, v = some (.int x)) ∧ Nq s0 s') :=
  ⟨fun z0 z1 z2 f => Nq s0 f, h, fun _ _ _ _ h => nl_205_4 (fun _ _ _ _ q => q)  h⟩
theorem nl_205_0 {d : Nat} {s0 : yS}    {a1 : Int32}  {s : yS} (h : Nq s0 s) : ub_205_0 (Par d)  a1 s (fun v s' => (∃ x : Int32, v = some (.int x)) ∧ Nq s0 s') := by
  unfold ub_205_0
  exact nm_205_4 h
theorem nl_205 {d : Nat} {a1 : Int32} {s : yS}  : Par d 205 [.ref 213, .int a1] s (fun v s' => (∃ x : Int32, v = some (.int x)) ∧ Nq s s') := by
  cases d with
  | zero => exact Par_0
  | succ d => exact pb_205 (nl_205_0  ⟨rfl, rfl⟩)
theorem nl_204_141 {d : Nat} {s0 : yS} (i204 : ∀ (a1 : Int32) (a2 : Int32) (s : yS), Par d 204 [.ref 213, .int a1, .int a2] s (fun v s' => (v = none) ∧ Nq s s'))   {a1 : Int32} {a2 : Int32} {a3 : Int32} {a4 : Int32} {a5 : Int32}  {s : yS} (h : Nq s0 s) : ub_204_141 (Par d)  a1 a2 a3 a4 a5 s (fun v s' => (v = none) ∧ Nq s0 s') := by
  unfold ub_204_141
  exact ⟨rfl, h⟩
theorem nl_204_117 {d : Nat} {s0 : yS} (i204 : ∀ (a1 : Int32) (a2 : Int32) (s : yS), Par d 204 [.ref 213, .int a1, .int a2] s (fun v s' => (v = none) ∧ Nq s s'))   {a1 : Int32} {a2 : Int32} {a3 : Int32} {a4 : Int32} {a5 : Int32}  {s : yS} (h : Nq s0 s) : ub_204_117 (Par d)  a1 a2 a3 a4 a5 s (fun v s' => (v = none) ∧ Nq s0 s') := by
  unfold ub_204_117
  intro _
  intro _
  intro x1 _
  intro _
  intro s2 e1
  have h2 := nq_sa e1 h (by decide)
  intro _
  constructor
  · intro _
    exact nl_204_141 i204 h2
  · intro _
    intro _
    refine Par.imp (nl_163) ?_
    rintro v4 s3 ⟨rfl, h3⟩
    refine ⟨rfl, ?_⟩
    have h5 := nq_tr h2 h3
    exact nl_204_141 i204 h5
theorem nl_204_102 {d : Nat} {s0 : yS} (i204 : ∀ (a1 : Int32) (a2 : Int32) (s : yS), Par d 204 [.ref 213, .int a1, .int a2] s (fun v s' => (v = none) ∧ Nq s s')) {R102 : Int32 → Int32 → Int32 → Int32 → Int32 → yS → Prop} (hR102 : ∀ (b0 : Int32) (b1 : Int32) (b2 : Int32) (b3 : Int32) (b4 : Int32) (f : yS), Nq s0 f → R102 b0 b1 b2 b3 b4 f) {a1 : Int32} {a2 : Int32} {a3 : Int32} {a4 : Int32} {a5 : Int32}  {s : yS} (h : Nq s0 s) : ub_204_102 (Par d) R102 a1 a2 a3 a4 a5 s (fun v s' => (v = none) ∧ Nq s0 s') := by
  unfold ub_204_102
  constructor
  · intro _
    exact nl_204_117 i204 h
  · intro _
    constructor
    · intro _
      exact nl_204_117 i204 h
    · intro _
      refine Par.imp (i204 _ _ _) ?_
      rintro v2 s1 ⟨rfl, h1⟩
      refine ⟨rfl, ?_⟩
      have h3 := nq_tr h h1
      intro _
      exact hR102 _ _ _ _ _ _ h3
theorem nm_204_102 {d : Nat} {s0 : yS} (i204 : ∀ (a1 : Int32) (a2 : Int32) (s : yS), Par d 204 [.ref 213, .int a1, .int a2] s (fun v s' => (v = none) ∧ Nq s s'))   {a1 : Int32} {a2 : Int32} {a3 : Int32} {a4 : Int32} {a5 : Int32}  {s : yS} (h : Nq s0 s) : ubl_204_102 (Par d)  a1 a2 a3 a4 a5 s (fun v s' => (v = none) ∧ Nq s0 s') :=
  ⟨fun z0 z1 z2 z3 z4 f => Nq s0 f, h, fun _ _ _ _ _ _ h => nl_204_102 i204 (fun _ _ _ _ _ _ q => q)  h⟩
theorem nl_204_68 {d : Nat} {s0 : yS} (i204 : ∀ (a1 : Int32) (a2 : Int32) (s : yS), Par d 204 [.ref 213, .int a1, .int a2] s (fun v s' => (v = none) ∧ Nq s s'))   {a1 : Int32} {a2 : Int32} {a3 : Int32} {a4 : Int32}  {s : yS} (h : Nq s0 s) : ub_204_68 (Par d)  a1 a2 a3 a4 s (fun v s' => (v = none) ∧ Nq s0 s') := by
  unfold ub_204_68
  constructor
  · intro _
    intro _
    intro s1 e1
    have h2 := nq_sa e1 h (by decide)
    intro _
    intro x2 _
    intro _
    intro _
    intro x3 _
    intro _
    intro s4 e3
    have h4 := nq_sa e3 h2 (by decide)
    intro _
    intro x5 _
    intro s6 e5
    have h6 := nq_sf e5 h4
    intro _
    exact nm_204_102 i204 h6
  · intro _
    exact ⟨rfl, h⟩
theorem nl_204_60 {d : Nat} {s0 : yS} (i204 : ∀ (a1 : Int32) (a2 : Int32) (s : yS), Par d 204 [.ref 213, .int a1, .int a2] s (fun v s' => (v = none) ∧ Nq s s'))   {a1 : Int32} {a2 : Int32} {a3 : Int32} {a4 : Int32} {t0 : Int32} {t1 : Int32}  {s : yS} (h : Nq s0 s) : ub_204_60 (Par d)  a1 a2 a3 a4 t0 t1 s (fun v s' => (v = none) ∧ Nq s0 s') := by
  unfold ub_204_60
  constructor
  · intro _
    exact nl_204_68 i204 h
  · intro _
    intro _
    refine Par.imp (nl_163) ?_
    rintro v2 s1 ⟨rfl, h1⟩
    refine ⟨rfl, ?_⟩
    have h3 := nq_tr h h1
    exact nl_204_68 i204 h3
theorem nl_204_31 {d : Nat} {s0 : yS} (i204 : ∀ (a1 : Int32) (a2 : Int32) (s : yS), Par d 204 [.ref 213, .int a1, .int a2] s (fun v s' => (v = none) ∧ Nq s s'))   {a1 : Int32} {a2 : Int32} {a3 : Int32} {t0 : Int32}  {s : yS} (h : Nq s0 s) : ub_204_31 (Par d)  a1 a2 a3 t0 s (fun v s' => (v = none) ∧ Nq s0 s') := by
  unfold ub_204_31
  constructor
  · intro _
    intro _
    constructor
    · intro _
      intro _
      intro x1 _
      intro _
      intro x2 _
      intro _
      exact nl_204_60 i204 h
    · intro _
      exact nl_204_60 i204 h
  · intro _
    intro _
    refine Par.imp (nl_163) ?_
    rintro v4 s3 ⟨rfl, h1⟩
    refine ⟨rfl, ?_⟩
    have h3 := nq_tr h h1
    exact nl_204_68 i204 h3
theorem nl_204_23 {d : Nat} {s0 : yS} (i204 : ∀ (a1 : Int32) (a2 : Int32) (s : yS), Par d 204 [.ref 213, .int a1, .int a2] s (fun v s' => (v = none) ∧ Nq s s'))   {a1 : Int32} {a2 : Int32} {t0 : Int32}  {s : yS} (h : Nq s0 s) : ub_204_23 (Par d)  a1 a2 t0 s (fun v s' => (v = none) ∧ Nq s0 s') := by
  unfold ub_204_23
  constructor
  · intro _
    refine Par.imp (nl_203) ?_
    rintro v2 s1 ⟨⟨x3, rfl⟩, h1⟩
    refine ⟨x3, rfl, ?_⟩
    have h3 := nq_tr h h1
    exact nl_204_31 i204 h3
  · intro _
    exact nl_204_31 i204 h
theorem nl_204_0 {d : Nat} {s0 : yS} (i204 : ∀ (a1 : Int32) (a2 : Int32) (s : yS), Par d 204 [.ref 213, .int a1, .int a2] s (fun v s' => (v = none) ∧ Nq s s'))   {a1 : Int32} {a2 : Int32}  {s : yS} (h : Nq s0 s) : ub_204_0 (Par d)  a1 a2 s (fun v s' => (v = none) ∧ Nq s0 s') := by
  unfold ub_204_0
  constructor
  · intro _
    constructor
    · intro _
      intro _
      intro _
      exact nl_204_23 i204 h
    · intro _
      intro _
      intro _
      refine Par.imp (nl_205) ?_
      rintro v2 s1 ⟨⟨x3, rfl⟩, h1⟩
      refine ⟨x3, rfl, ?_⟩
      have h3 := nq_tr h h1
      exact nl_204_23 i204 h3
  · intro _
    exact ⟨rfl, h⟩
theorem nls_204 : ∀ d : Nat, (∀ (a1 : Int32) (a2 : Int32) (s : yS), Par d 204 [.ref 213, .int a1, .int a2] s (fun v s' => (v = none) ∧ Nq s s'))
  | 0 => fun _ _ _ => Par_0
  | d + 1 => by
    have ih := nls_204 d
    exact fun _ _ s => pb_204 (nl_204_0 ih ⟨rfl, rfl⟩)
theorem nl_204 {d : Nat} {a1 : Int32} {a2 : Int32} {s : yS} : Par d 204 [.ref 213, .int a1, .int a2] s (fun v s' => (v = none) ∧ Nq s s') := (nls_204 d) a1 a2 s
theorem nl_206_0 {d : Nat} {s0 : yS}    {a1 : Int32} {a2 : Int32} {a3 : Int32}  {s : yS} (h : Nq s0 s) : ub_206_0 (Par d)  a1 a2 a3 s (fun v s' => (v = none) ∧ Nq s0 s') := by
  unfold ub_206_0
  intro s1 e1
  have h2 := nq_sf e1 h
  intro s2 e3
  have h4 := nq_sf e3 h2
  intro s3 e5
  have h6 := nq_sf e5 h4
  exact ⟨rfl, h6⟩
theorem nl_206 {d : Nat} {a1 : Int32} {a2 : Int32} {a3 : Int32} {s : yS}  : Par d 206 [.ref 213, .int a1, .int a2, .int a3] s (fun v s' => (v = none) ∧ Nq s s') := by
  cases d with
  | zero => exact Par_0
  | succ d => exact pb_206 (nl_206_0  ⟨rfl, rfl⟩)
theorem nl_207_41 {d : Nat} {s0 : yS}    {a1 : Int32}  {s : yS} (h : Nq s0 s) : ub_207_41 (Par d)  a1 s (fun v s' => (v = none) ∧ Nq s0 s') := by
  unfold ub_207_41
  exact ⟨rfl, h⟩
theorem nl_207_34 {d : Nat} {s0 : yS}    {a1 : Int32}  {s : yS} (h : Nq s0 s) : ub_207_34 (Par d)  a1 s (fun v s' => (v = none) ∧ Nq s0 s') := by
  unfold ub_207_34
  intro _
  refine Par.imp (nl_163) ?_
  rintro v2 s1 ⟨rfl, h1⟩
  refine ⟨rfl, ?_⟩
  have h3 := nq_tr h h1
  exact nl_207_41 h3
theorem nl_207_0 {d : Nat} {s0 : yS}    {a1 : Int32}  {s : yS} (h : Nq s0 s) : ub_207_0 (Par d)  a1 s (fun v s' => (v = none) ∧ Nq s0 s') := by
  unfold ub_207_0
  refine Par.imp (nl_204) ?_
  rintro v2 s1 ⟨rfl, h1⟩
  refine ⟨rfl, ?_⟩
  have h3 := nq_tr h h1
  constructor
  · intro _
    exact nl_207_41 h3
  · intro _
    intro _
    intro _
    refine Par.imp (nl_185) ?_
    rintro v4 s3 ⟨⟨x5, rfl⟩, h4⟩
    refine ⟨x5, rfl, ?_⟩
    have h6 := nq_tr h3 h4
    constructor
    · intro _
      exact nl_207_34 h6
    · intro _
      intro _
      intro x6 _
      intro _
      intro _
      refine Par.imp (nl_185) ?_
      rintro v8 s7 ⟨⟨x9, rfl⟩, h7⟩
      refine ⟨x9, rfl, ?_⟩
      have h9 := nq_tr h6 h7
      intro _
      intro x10 _
      intro _
      constructor
      · intro _
        exact nl_207_41 h9
      · intro _
        exact nl_207_34 h9
theorem nl_207 {d : Nat} {a1 : Int32} {s : yS}  : Par d 207 [.ref 213, .int a1] s (fun v s' => (v = none) ∧ Nq s s') := by
  cases d with
  | zero => exact Par_0
  | succ d => exact pb_207 (nl_207_0  ⟨rfl, rfl⟩)
theorem nl_208_27 {d : Nat} {s0 : yS}  {R27 : Int32 → Int32 → Int32 → Int32 → yS → Prop} (hR27 : ∀ (b0 : Int32) (b1 : Int32) (b2 : Int32) (b3 : Int32) (f : yS), Nq s0 f → R27 b0 b1 b2 b3 f) {a1 : Int32} {a2 : Int32} {a3 : Int32} {a4 : Int32}  {s : yS} (h : Nq s0 s) : ub_208_27 (Par d) R27 a1 a2 a3 a4 s (fun v s' => (v = none) ∧ Nq s0 s') := by
  unfold ub_208_27
  intro _
  constructor
  · intro _
    intro _
    refine Par.imp (nl_204) ?_
    rintro v2 s1 ⟨rfl, h1⟩
    refine ⟨rfl, ?_⟩
    have h3 := nq_tr h h1
    exact ⟨rfl, h3⟩
  · intro _
    intro _
    intro x3 _
    intro _
    intro x4 _
    intro _
    refine Par.imp (nl_204) ?_
    rintro v6 s5 ⟨rfl, h4⟩
    refine ⟨rfl, ?_⟩
    have h6 := nq_tr h h4
    intro _
    intro x7 _
    exact hR27 _ _ _ _ _ h6
theorem nm_208_27 {d : Nat} {s0 : yS}    {a1 : Int32} {a2 : Int32} {a3 : Int32} {a4 : Int32}  {s : yS} (h : Nq s0 s) : ubl_208_27 (Par d)  a1 a2 a3 a4 s (fun v s' => (v = none) ∧ Nq s0 s') :=
  ⟨fun z0 z1 z2 z3 f => Nq s0 f, h, fun _ _ _ _ _ h => nl_208_27 (fun _ _ _ _ _ q => q)  h⟩
theorem nl_208_7 {d : Nat} {s0 : yS}  {R7 : Int32 → Int32 → Int32 → Int32 → yS → Prop} (hR7 : ∀ (b0 : Int32) (b1 : Int32) (b2 : Int32) (b3 : Int32) (f : yS), Nq s0 f → R7 b0 b1 b2 b3 f) {a1 : Int32} {a2 : Int32} {a3 : Int32} {a4 : Int32}  {s : yS} (h : Nq s0 s) : ub_208_7 (Par d) R7 a1 a2 a3 a4 s (fun v s' => (v = none) ∧ Nq s0 s') := by
  unfold ub_208_7
  intro _
  constructor
  · intro _
    exact nm_208_27 h
  · intro _
    intro _
    intro x1 _
    intro _
    intro x2 _
    intro _
    refine Par.imp (nl_207) ?_
    rintro v4 s3 ⟨rfl, h1⟩
    refine ⟨rfl, ?_⟩
    have h3 := nq_tr h h1
    intro _
    intro x5 _
    exact hR7 _ _ _ _ _ h3
theorem nm_208_7 {d : Nat} {s0 : yS}    {a1 : Int32} {a2 : Int32} {a3 : Int32} {a4 : Int32}  {s : yS} (h : Nq s0 s) : ubl_208_7 (Par d)  a1 a2 a3 a4 s (fun v s' => (v = none) ∧ Nq s0 s') :=
  ⟨fun z0 z1 z2 z3 f => Nq s0 f, h, fun _ _ _ _ _ h => nl_208_7 (fun _ _ _ _ _ q => q)  h⟩
theorem nl_208_0 {d : Nat} {s0 : yS}    {a1 : Int32} {a2 : Int32} {a3 : Int32}  {s : yS} (h : Nq s0 s) : ub_208_0 (Par d)  a1 a2 a3 s (fun v s' => (v = none) ∧ Nq s0 s') := by
  unfold ub_208_0
  refine Par.imp (nl_206) ?_
  rintro v2 s1 ⟨rfl, h1⟩
  refine ⟨rfl, ?_⟩
  have h3 := nq_tr h h1
  exact nm_208_7 h3
theorem nl_208 {d : Nat} {a1 : Int32} {a2 : Int32} {a3 : Int32} {s : yS}  : Par d 208 [.ref 213, .int a1, .int a2, .int a3] s (fun v s' => (v = none) ∧ Nq s s') := by
  cases d with
  | zero => exact Par_0
  | succ d => exact pb_208 (nl_208_0  ⟨rfl, rfl⟩)
theorem nl_209_51 {d : Nat} {s0 : yS}  {R51 : Int32 → Int32 → yS → Prop} (hR51 : ∀ (b0 : Int32) (b1 : Int32) (f : yS), Nq s0 f → R51 b0 b1 f) {a1 : Int32} {a2 : Int32}  {s : yS} (h : Nq s0 s) : ub_209_51 (Par d) R51 a1 a2 s (fun v s' => (v = none) ∧ Nq s0 s') := by
  unfold ub_209_51
  intro _
  intro _
  intro _
  intro x1 _
  constructor
  · intro _
    exact ⟨rfl, h⟩
  · intro _
    refine Par.imp (nl_208) ?_
    rintro v3 s2 ⟨rfl, h1⟩
    refine ⟨rfl, ?_⟩
    have h3 := nq_tr h h1
    intro _
    intro x4 _
    exact hR51 _ _ _ h3
theorem nm_209_51 {d : Nat} {s0 : yS}    {a1 : Int32} {a2 : Int32}  {s : yS} (h : Nq s0 s) : ubl_209_51 (Par d)  a1 a2 s (fun v s' => (v = none) ∧ Nq s0 s') :=
  ⟨fun z0 z1 f => Nq s0 f, h, fun _ _ _ h => nl_209_51 (fun _ _ _ q => q)  h⟩
theorem nl_209_27 {d : Nat} {s0 : yS}  {R27 : Int32 → Int32 → yS → Prop} (hR27 : ∀ (b0 : Int32) (b1 : Int32) (f : yS), Nq s0 f → R27 b0 b1 f) {a1 : Int32} {a2 : Int32}  {s : yS} (h : Nq s0 s) : ub_209_27 (Par d) R27 a1 a2 s (fun v s' => (v = none) ∧ Nq s0 s') := by
  unfold ub_209_27
  intro _
  constructor
  · intro _
    intro _
    exact nm_209_51 h
  · intro _
    intro _
    intro x1 _
    intro _
    intro x2 _
    intro _
    refine Par.imp (nl_204) ?_
    rintro v4 s3 ⟨rfl, h1⟩
    refine ⟨rfl, ?_⟩
    have h3 := nq_tr h h1
    intro _
    intro x5 _
    exact hR27 _ _ _ h3
theorem nm_209_27 {d : Nat} {s0 : yS}    {a1 : Int32} {a2 : Int32}  {s : yS} (h : Nq s0 s) : ubl_209_27 (Par d)  a1 a2 s (fun v s' => (v = none) ∧ Nq s0 s') :=
  ⟨fun z0 z1 f => Nq s0 f, h, fun _ _ _ h => nl_209_27 (fun _ _ _ q => q)  h⟩
theorem nl_209_7 {d : Nat} {s0 : yS}  {R7 : Int32 → Int32 → yS → Prop} (hR7 : ∀ (b0 : Int32) (b1 : Int32) (f : yS), Nq s0 f → R7 b0 b1 f) {a1 : Int32} {a2 : Int32}  {s : yS} (h : Nq s0 s) : ub_209_7 (Par d) R7 a1 a2 s (fun v s' => (v = none) ∧ Nq s0 s') := by
  unfold ub_209_7
  intro _
  constructor
  · intro _
    exact nm_209_27 h
  · intro _
    intro _
    intro x1 _
    intro _
    intro x2 _
    intro _
    refine Par.imp (nl_207) ?_
    rintro v4 s3 ⟨rfl, h1⟩
    refine ⟨rfl, ?_⟩
    have h3 := nq_tr h h1
    intro _
    intro x5 _
    exact hR7 _ _ _ h3
theorem nm_209_7 {d : Nat} {s0 : yS}    {a1 : Int32} {a2 : Int32}  {s : yS} (h : Nq s0 s) : ubl_209_7 (Par d)  a1 a2 s (fun v s' => (v = none) ∧ Nq s0 s') :=
  ⟨fun z0 z1 f => Nq s0 f, h, fun _ _ _ h => nl_209_7 (fun _ _ _ q => q)  h⟩
theorem nl_209_0 {d : Nat} {s0 : yS}    {a1 : Int32}  {s : yS} (h : Nq s0 s) : ub_209_0 (Par d)  a1 s (fun v s' => (v = none) ∧ Nq s0 s') := by
  unfold ub_209_0
  refine Par.imp (nl_206) ?_
  rintro v2 s1 ⟨rfl, h1⟩
  refine ⟨rfl, ?_⟩
  have h3 := nq_tr h h1
  exact nm_209_7 h3
theorem nl_209 {d : Nat} {a1 : Int32} {s : yS}  : Par d 209 [.ref 213, .int a1] s (fun v s' => (v = none) ∧ Nq s s') := by
  cases d with
  | zero => exact Par_0
  | succ d => exact pb_209 (nl_209_0  ⟨rfl, rfl⟩)
theorem nl_210_68 {d : Nat} {s0 : yS}    {a1 : Int32} {a2 : Int32}  {s : yS} (h : Nq s0 s) : ub_210_68 (Par d)  a1 a2 s (fun v s' => (v = none) ∧ Nq s0 s') := by
  unfold ub_210_68
  intro _
  intro s1 e1
  have h2 := nq_sa e1 h (by decide)
  intro _
  refine Par.imp (nl_208) ?_
  rintro v3 s2 ⟨rfl, h3⟩
  refine ⟨rfl, ?_⟩
  have h5 := nq_tr h2 h3
  exact ⟨rfl, h5⟩
theorem nl_210_0 {d : Nat} {s0 : yS}    {a1 : Int32}  {s : yS} (h : Nq s0 s) : ub_210_0 (Par d)  a1 s (fun v s' => (v = none) ∧ Nq s0 s') := by
  unfold ub_210_0
  constructor
  · intro _
    refine Par.imp (nl_206) ?_
    rintro v2 s1 ⟨rfl, h1⟩
    refine ⟨rfl, ?_⟩
    have h3 := nq_tr h h1
    intro _
    intro _
    refine Par.imp (nl_203) ?_
    rintro v4 s3 ⟨⟨x5, rfl⟩, h4⟩
    refine ⟨x5, rfl, ?_⟩
    have h6 := nq_tr h3 h4
    constructor
    · intro _
      intro _
      intro x6 _
      intro _
      intro x7 _
      intro _
      constructor
      · intro _
        intro _
        intro x8 _
        intro _
        intro x9 _
        intro _
        intro _
        constructor
        · intro _
          exact nl_210_68 h6
        · intro _
          intro _
          refine Par.imp (nl_163) ?_
          rintro v11 s10 ⟨rfl, h7⟩
          refine ⟨rfl, ?_⟩
          have h9 := nq_tr h6 h7
          exact nl_210_68 h9
      · intro _
        intro _
        refine Par.imp (nl_163) ?_
        rintro v13 s12 ⟨rfl, h10⟩
        refine ⟨rfl, ?_⟩
        have h12 := nq_tr h6 h10
        exact nl_210_68 h12
    · intro _
      intro _
      refine Par.imp (nl_163) ?_
      rintro v15 s14 ⟨rfl, h13⟩
      refine ⟨rfl, ?_⟩
      have h15 := nq_tr h6 h13
      exact nl_210_68 h15
  · intro _
    exact ⟨rfl, h⟩
theorem nl_210 {d : Nat} {a1 : Int32} {s : yS}  : Par d 210 [.ref 213, .int a1] s (fun v s' => (v = none) ∧ Nq s s') := by
  cases d with
  | zero => exact Par_0
  | succ d => exact pb_210 (nl_210_0  ⟨rfl, rfl⟩)
theorem nl_212_40 {d : Nat} {s0 : yS}    {a1 : Int32} {a2 : Int32} {a3 : Int32} {a4 : Int32} {a5 : Int32} {a6 : Int32} {a7 : Int32}  {s : yS} (h : Nq s0 s) : ub_212_40 (Par d)  a1 a2 a3 a4 a5 a6 a7 s (fun v s' => (v = none) ∧ Nq s0 s') := by
  unfold ub_212_40
  intro s1 e1
  have h2 := nq_sf e1 h
  exact ⟨rfl, h2⟩
theorem nl_212_38 {d : Nat} {s0 : yS}    {a1 : Int32} {a2 : Int32} {a3 : Int32} {a4 : Int32} {a5 : Int32} {a6 : Int32} {a7 : Int32} {t1 : Int32}  {s : yS} (h : Nq s0 s) : ub_212_38 (Par d)  a1 a2 a3 a4 a5 a6 a7 t1 s (fun v s' => (v = none) ∧ Nq s0 s') := by
  unfold ub_212_38
  refine Par.imp (nl_163) ?_
  rintro v2 s1 ⟨rfl, h1⟩
  refine ⟨rfl, ?_⟩
  have h3 := nq_tr h h1
  exact nl_212_40 h3
theorem nl_212_0 {d : Nat} {s0 : yS}    {a1 : Int32} {a2 : Int32} {a3 : Int32} {a4 : Int32} {a5 : Int32}  {s : yS} (h : Nq s0 s) : ub_212_0 (Par d)  a1 a2 a3 a4 a5 s (fun v s' => (v = none) ∧ Nq s0 s') := by
  unfold ub_212_0
  intro _
  intro _
  refine Par.imp (nl_191) ?_
  rintro v2 s1 ⟨⟨x3, rfl⟩, h1⟩
  refine ⟨x3, rfl, ?_⟩
  have h3 := nq_tr h h1
  constructor
  · intro _
    refine Par.imp (nl_195) ?_
    rintro v5 s4 ⟨⟨x6, rfl⟩, h4⟩
    refine ⟨x6, rfl, ?_⟩
    have h6 := nq_tr h3 h4
    constructor
    · intro _
      exact nl_212_40 h6
    · intro _
      constructor
      · intro _
        exact nl_212_38 h6
      · intro _
        exact nl_212_38 h6
  · intro _
    refine Par.imp (nl_163) ?_
    rintro v8 s7 ⟨rfl, h7⟩
    refine ⟨rfl, ?_⟩
    have h9 := nq_tr h3 h7
    exact ⟨rfl, h9⟩
theorem nl_212 {d : Nat} {a1 : Int32} {a2 : Int32} {a3 : Int32} {a4 : Int32} {a5 : Int32} {s : yS}  : Par d 212 [.ref 213, .int a1, .int a2, .int a3, .int a4, .int a5] s (fun v s' => (v = none) ∧ Nq s s') := by
  cases d with
  | zero => exact Par_0
  | succ d => exact pb_212 (nl_212_0  ⟨rfl, rfl⟩)
theorem nl_211_107 {d : Nat} {s0 : yS} (i211 : ∀ (a1 : Int32) (s : yS), Par d 211 [.ref 213, .int a1] s (fun v s' => (v = none) ∧ Nq s s'))   {a1 : Int32} {a2 : Int32} {a3 : Int32} {a4 : Int32} {a5 : Int32}  {s : yS} (h : Nq s0 s) : ub_211_107 (Par d)  a1 a2 a3 a4 a5 s (fun v s' => (v = none) ∧ Nq s0 s') := by
  unfold ub_211_107
  intro _
  intro x1 _
  intro s2 e1
  have h2 := nq_sf e1 h
  exact ⟨rfl, h2⟩
theorem nl_211_72 {d : Nat} {s0 : yS} (i211 : ∀ (a1 : Int32) (s : yS), Par d 211 [.ref 213, .int a1] s (fun v s' => (v = none) ∧ Nq s s')) {R72 : Int32 → Int32 → Int32 → Int32 → Int32 → yS → Prop} (hR72 : ∀ (b0 : Int32) (b1 : Int32) (b2 : Int32) (b3 : Int32) (b4 : Int32) (f : yS), Nq s0 f → R72 b0 b1 b2 b3 b4 f) {a1 : Int32} {a2 : Int32} {a3 : Int32} {a4 : Int32} {a5 : Int32}  {s : yS} (h : Nq s0 s) : ub_211_72 (Par d) R72 a1 a2 a3 a4 a5 s (fun v s' => (v = none) ∧ Nq s0 s') := by
  unfold ub_211_72
  constructor
  · intro _
    exact nl_211_107 i211 h
  · intro _
    constructor
    · intro _
      exact nl_211_107 i211 h
    · intro _
      intro _
      intro _
      intro _
      intro x1 _
      intro _
      intro x2 _
      intro _
      intro _
      refine Par.imp (nl_212) ?_
      rintro v4 s3 ⟨rfl, h1⟩
      refine ⟨rfl, ?_⟩
      have h3 := nq_tr h h1
      intro _
      intro x5 _
      intro _
      exact hR72 _ _ _ _ _ _ h3
theorem nm_211_72 {d : Nat} {s0 : yS} (i211 : ∀ (a1 : Int32) (s : yS), Par d 211 [.ref 213, .int a1] s (fun v s' => (v = none) ∧ Nq s s'))   {a1 : Int32} {a2 : Int32} {a3 : Int32} {a4 : Int32} {a5 : Int32}  {s : yS} (h : Nq s0 s) : ubl_211_72 (Par d)  a1 a2 a3 a4 a5 s (fun v s' => (v = none) ∧ Nq s0 s') :=
  ⟨fun z0 z1 z2 z3 z4 f => Nq s0 f, h, fun _ _ _ _ _ _ h => nl_211_72 i211 (fun _ _ _ _ _ _ q => q)  h⟩
theorem nl_211_27 {d : Nat} {s0 : yS} (i211 : ∀ (a1 : Int32) (s : yS), Par d 211 [.ref 213, .int a1] s (fun v s' => (v = none) ∧ Nq s s'))   {a1 : Int32} {a2 : Int32}  {s : yS} (h : Nq s0 s) : ub_211_27 (Par d)  a1 a2 s (fun v s' => (v = none) ∧ Nq s0 s') := by
  unfold ub_211_27
  exact ⟨rfl, h⟩
theorem nl_211_19 {d : Nat} {s0 : yS} (i211 : ∀ (a1 : Int32) (s : yS), Par d 211 [.ref 213, .int a1] s (fun v s' => (v = none) ∧ Nq s s'))   {a1 : Int32} {a2 : Int32}  {s : yS} (h : Nq s0 s) : ub_211_19 (Par d)  a1 a2 s (fun v s' => (v = none) ∧ Nq s0 s') := by
  unfold ub_211_19
  constructor
  · intro _
    exact nl_211_27 i211 h
  · intro _
    intro _
    constructor
    · intro _
      intro _
      intro x1 _
      intro _
      intro _
      refine Par.imp (nl_185) ?_
      rintro v3 s2 ⟨⟨x4, rfl⟩, h1⟩
      refine ⟨x4, rfl, ?_⟩
      have h3 := nq_tr h h1
      intro _
      intro x5 _
      refine Par.imp (nl_188) ?_
      rintro v7 s6 ⟨⟨x8, rfl⟩, h4⟩
      refine ⟨x8, rfl, ?_⟩
      have h6 := nq_tr h3 h4
      intro _
      intro _
      refine Par.imp (nl_185) ?_
      rintro v10 s9 ⟨⟨x11, rfl⟩, h7⟩
      refine ⟨x11, rfl, ?_⟩
      have h9 := nq_tr h6 h7
      intro _
      intro x12 _
      intro _
      intro x13 _
      intro _
      refine Par.imp (nl_189) ?_
      rintro v15 s14 ⟨rfl, h10⟩
      refine ⟨rfl, ?_⟩
      have h12 := nq_tr h9 h10
      intro _
      exact nm_211_72 i211 h12
    · intro _
      exact nl_211_27 i211 h
theorem nl_211_5 {d : Nat} {s0 : yS} (i211 : ∀ (a1 : Int32) (s : yS), Par d 211 [.ref 213, .int a1] s (fun v s' => (v = none) ∧ Nq s s')) {R5 : Int32 → Int32 → yS → Prop} (hR5 : ∀ (b0 : Int32) (b1 : Int32) (f : yS), Nq s0 f → R5 b0 b1 f) {a1 : Int32} {a2 : Int32}  {s : yS} (h : Nq s0 s) : ub_211_5 (Par d) R5 a1 a2 s (fun v s' => (v = none) ∧ Nq s0 s') := by
  unfold ub_211_5
  constructor
  · intro _
    exact nl_211_19 i211 h
  · intro _
    constructor
    · intro _
      exact nl_211_19 i211 h
    · intro _
      refine Par.imp (i211 _ _) ?_
      rintro v2 s1 ⟨rfl, h1⟩
      refine ⟨rfl, ?_⟩
      have h3 := nq_tr h h1
      intro _
      exact hR5 _ _ _ h3
theorem nm_211_5 {d : Nat} {s0 : yS} (i211 : ∀ (a1 : Int32) (s : yS), Par d 211 [.ref 213, .int a1] s (fun v s' => (v = none) ∧ Nq s s'))   {a1 : Int32} {a2 : Int32}  {s : yS} (h : Nq s0 s) : ubl_211_5 (Par d)  a1 a2 s (fun v s' => (v = none) ∧ Nq s0 s') :=
  ⟨fun z0 z1 f => Nq s0 f, h, fun _ _ _ h => nl_211_5 i211 (fun _ _ _ q => q)  h⟩
theorem nl_211_0 {d : Nat} {s0 : yS} (i211 : ∀ (a1 : Int32) (s : yS), Par d 211 [.ref 213, .int a1] s (fun v s' => (v = none) ∧ Nq s s'))   {a1 : Int32}  {s : yS} (h : Nq s0 s) : ub_211_0 (Par d)  a1 s (fun v s' => (v = none) ∧ Nq s0 s') := by
  unfold ub_211_0
  intro _
  exact nm_211_5 i211 h
theorem nls_211 : ∀ d : Nat, (∀ (a1 : Int32) (s : yS), Par d 211 [.ref 213, .int a1] s (fun v s' => (v = none) ∧ Nq s s'))
  | 0 => fun _ _ => Par_0
  | d + 1 => by
    have ih := nls_211 d
    exact fun _ s => pb_211 (nl_211_0 ih ⟨rfl, rfl⟩)
theorem nl_211 {d : Nat} {a1 : Int32} {s : yS} : Par d 211 [.ref 213, .int a1] s (fun v s' => (v = none) ∧ Nq s s') := (nls_211 d) a1 s
theorem nl_213_55 {d : Nat} {s0 : yS}    {a1 : Int32} {a2 : Int32}  {s : yS} (h : Nq s0 s) : ub_213_55 (Par d)  a1 a2 s (fun v s' => (v = none) ∧ Nq s0 s') := by
  unfold ub_213_55
  exact ⟨rfl, h⟩
theorem nl_213_46 {d : Nat} {s0 : yS}    {a1 : Int32} {a2 : Int32}  {s : yS} (h : Nq s0 s) : ub_213_46 (Par d)  a1 a2 s (fun v s' => (v = none) ∧ Nq s0 s') := by
  unfold ub_213_46
  constructor
  · intro _
    exact nl_213_55 h
  · intro _
    intro _
    refine Par.imp (nl_211) ?_
    rintro v2 s1 ⟨rfl, h1⟩
    refine ⟨rfl, ?_⟩
    have h3 := nq_tr h h1
    exact nl_213_55 h3
theorem nl_213_25 {d : Nat} {s0 : yS}  {R25 : Int32 → Int32 → yS → Prop} (hR25 : ∀ (b0 : Int32) (b1 : Int32) (f : yS), Nq s0 f → R25 b0 b1 f) {a1 : Int32} {a2 : Int32}  {s : yS} (h : Nq s0 s) : ub_213_25 (Par d) R25 a1 a2 s (fun v s' => (v = none) ∧ Nq s0 s') := by
  unfold ub_213_25
  intro _
  constructor
  · intro _
    exact nl_213_46 h
  · intro _
    constructor
    · intro _
      exact nl_213_46 h
    · intro _
      intro _
      intro x1 _
      intro _
      intro x2 _
      intro _
      refine Par.imp (nl_211) ?_
      rintro v4 s3 ⟨rfl, h1⟩
      refine ⟨rfl, ?_⟩
      have h3 := nq_tr h h1
      intro _
      intro x5 _
      exact hR25 _ _ _ h3
theorem nm_213_25 {d : Nat} {s0 : yS}    {a1 : Int32} {a2 : Int32}  {s : yS} (h : Nq s0 s) : ubl_213_25 (Par d)  a1 a2 s (fun v s' => (v = none) ∧ Nq s0 s') :=
  ⟨fun z0 z1 f => Nq s0 f, h, fun _ _ _ h => nl_213_25 (fun _ _ _ q => q)  h⟩
theorem nl_213_23 {d : Nat} {s0 : yS}    {a1 : Int32} {a2 : Int32}  {s : yS} (h : Nq s0 s) : ub_213_23 (Par d)  a1 a2 s (fun v s' => (v = none) ∧ Nq s0 s') := by
  unfold ub_213_23
  exact nm_213_25 h
theorem nl_213_2 {d : Nat} {s0 : yS}  {R2 : Int32 → Int32 → yS → Prop} (hR2 : ∀ (b0 : Int32) (b1 : Int32) (f : yS), Nq s0 f → R2 b0 b1 f) {a1 : Int32} {a2 : Int32}  {s : yS} (h : Nq s0 s) : ub_213_2 (Par d) R2 a1 a2 s (fun v s' => (v = none) ∧ Nq s0 s') := by
  unfold ub_213_2
  intro _
  constructor
  · intro _
    exact nl_213_23 h
  · intro _
    constructor
    · intro _
      exact nl_213_23 h
    · intro _
      intro _
      intro x1 _
      intro _
      intro x2 _
      intro _
      refine Par.imp (nl_211) ?_
      rintro v4 s3 ⟨rfl, h1⟩
      refine ⟨rfl, ?_⟩
      have h3 := nq_tr h h1
      intro _
      intro x5 _
      exact hR2 _ _ _ h3
theorem nm_213_2 {d : Nat} {s0 : yS}    {a1 : Int32} {a2 : Int32}  {s : yS} (h : Nq s0 s) : ubl_213_2 (Par d)  a1 a2 s (fun v s' => (v = none) ∧ Nq s0 s') :=
  ⟨fun z0 z1 f => Nq s0 f, h, fun _ _ _ h => nl_213_2 (fun _ _ _ q => q)  h⟩
theorem nl_213_0 {d : Nat} {s0 : yS}    {a1 : Int32}  {s : yS} (h : Nq s0 s) : ub_213_0 (Par d)  a1 s (fun v s' => (v = none) ∧ Nq s0 s') := by
  unfold ub_213_0
  exact nm_213_2 h
theorem nl_213 {d : Nat} {a1 : Int32} {s : yS}  : Par d 213 [.ref 213, .int a1] s (fun v s' => (v = none) ∧ Nq s s') := by
  cases d with
  | zero => exact Par_0
  | succ d => exact pb_213 (nl_213_0  ⟨rfl, rfl⟩)
theorem nl_214_70 {d : Nat} {s0 : yS}    {a1 : Int32} {a2 : Int32}  {s : yS} (h : Nq s0 s) : ub_214_70 (Par d)  a1 a2 s (fun v s' => (v = none) ∧ Nq s0 s') := by
  unfold ub_214_70
  exact ⟨rfl, h⟩
theorem nl_214_51 {d : Nat} {s0 : yS}  {R51 : Int32 → Int32 → yS → Prop} (hR51 : ∀ (b0 : Int32) (b1 : Int32) (f : yS), Nq s0 f → R51 b0 b1 f) {a1 : Int32} {a2 : Int32}  {s : yS} (h : Nq s0 s) : ub_214_51 (Par d) R51 a1 a2 s (fun v s' => (v = none) ∧ Nq s0 s') := by
  unfold ub_214_51
  intro _
  intro _
  intro _
  intro x1 _
  constructor
  · intro _
    exact nl_214_70 h
  · intro _
    constructor
    · intro _
      exact nl_214_70 h
    · intro _
      refine Par.imp (nl_213) ?_
      rintro v3 s2 ⟨rfl, h1⟩
      refine ⟨rfl, ?_⟩
      have h3 := nq_tr h h1
      intro _
      intro x4 _
      exact hR51 _ _ _ h3
theorem nm_214_51 {d : Nat} {s0 : yS}    {a1 : Int32} {a2 : Int32}  {s : yS} (h : Nq s0 s) : ubl_214_51 (Par d)  a1 a2 s (fun v s' => (v = none) ∧ Nq s0 s') :=
  ⟨fun z0 z1 f => Nq s0 f, h, fun _ _ _ h => nl_214_51 (fun _ _ _ q => q)  h⟩
theorem nl_214_46 {d : Nat} {s0 : yS}    {a1 : Int32} {a2 : Int32}  {s : yS} (h : Nq s0 s) : ub_214_46 (Par d)  a1 a2 s (fun v s' => (v = none) ∧ Nq s0 s') := by
  unfold ub_214_46
  intro _
  exact nm_214_51 h
theorem nl_214_25 {d : Nat} {s0 : yS}  {R25 : Int32 → Int32 → yS → Prop} (hR25 : ∀ (b0 : Int32) (b1 : Int32) (f : yS), Nq s0 f → R25 b0 b1 f) {a1 : Int32} {a2 : Int32}  {s : yS} (h : Nq s0 s) : ub_214_25 (Par d) R25 a1 a2 s (fun v s' => (v = none) ∧ Nq s0 s') := by
  unfold ub_214_25
  intro _
  constructor
  · intro _
    exact nl_214_46 h
  · intro _
    constructor
    · intro _
      exact nl_214_46 h
    · intro _
      intro _
      intro x1 _
      intro _
      intro x2 _
      intro _
      refine Par.imp (nl_211) ?_
      rintro v4 s3 ⟨rfl, h1⟩
      refine ⟨rfl, ?_⟩
      have h3 := nq_tr h h1
      intro _
      intro x5 _
      exact hR25 _ _ _ h3
theorem nm_214_25 {d : Nat} {s0 : yS}    {a1 : Int32} {a2 : Int32}  {s : yS} (h : Nq s0 s) : ubl_214_25 (Par d)  a1 a2 s (fun v s' => (v = none) ∧ Nq s0 s') :=
  ⟨fun z0 z1 f => Nq s0 f, h, fun _ _ _ h => nl_214_25 (fun _ _ _ q => q)  h⟩
theorem nl_214_23 {d : Nat} {s0 : yS}    {a1 : Int32} {a2 : Int32}  {s : yS} (h : Nq s0 s) : ub_214_23 (Par d)  a1 a2 s (fun v s' => (v = none) ∧ Nq s0 s') := by
  unfold ub_214_23
  exact nm_214_25 h
theorem nl_214_2 {d : Nat} {s0 : yS}  {R2 : Int32 → Int32 → yS → Prop} (hR2 : ∀ (b0 : Int32) (b1 : Int32) (f : yS), Nq s0 f → R2 b0 b1 f) {a1 : Int32} {a2 : Int32}  {s : yS} (h : Nq s0 s) : ub_214_2 (Par d) R2 a1 a2 s (fun v s' => (v = none) ∧ Nq s0 s') := by
  unfold ub_214_2
  intro _
  constructor
  · intro _
    exact nl_214_23 h
  · intro _
    constructor
    · intro _
      exact nl_214_23 h
    · intro _
      intro _
      intro x1 _
      intro _
      intro x2 _
      intro _
      refine Par.imp (nl_211) ?_
      rintro v4 s3 ⟨rfl, h1⟩
      refine ⟨rfl, ?_⟩
      have h3 := nq_tr h h1
      intro _
      intro x5 _
      exact hR2 _ _ _ h3
theorem nm_214_2 {d : Nat} {s0 : yS}    {a1 : Int32} {a2 : Int32}  {s : yS} (h : Nq s0 s) : ubl_214_2 (Par d)  a1 a2 s (fun v s' => (v = none) ∧ Nq s0 s') :=
  ⟨fun z0 z1 f => Nq s0 f, h, fun _ _ _ h => nl_214_2 (fun _ _ _ q => q)  h⟩
theorem nl_214_0 {d : Nat} {s0 : yS}    {a1 : Int32}  {s : yS} (h : Nq s0 s) : ub_214_0 (Par d)  a1 s (fun v s' => (v = none) ∧ Nq s0 s') := by
  unfold ub_214_0
  exact nm_214_2 h
theorem nl_214 {d : Nat} {a1 : Int32} {s : yS}  : Par d 214 [.ref 213, .int a1] s (fun v s' => (v = none) ∧ Nq s s') := by
  cases d with
  | zero => exact Par_0
  | succ d => exact pb_214 (nl_214_0  ⟨rfl, rfl⟩)
theorem nl_215_161 {d : Nat} {s0 : yS}  {R138 : Int32 → Int32 → yS → Prop} (hR138 : ∀ (b0 : Int32) (b1 : Int32) (f : yS), Nq s0 f → R138 b0 b1 f) {a1 : Int32} {a2 : Int32}  {s : yS} (h : Nq s0 s) : ub_215_161 (Par d) R138 a1 a2 s (fun v s' => (v = none) ∧ Nq s0 s') := by
  unfold ub_215_161
  intro _
  intro x1 _
  exact hR138 _ _ _ h
theorem nl_215_138 {d : Nat} {s0 : yS}  {R138 : Int32 → Int32 → yS → Prop} (hR138 : ∀ (b0 : Int32) (b1 : Int32) (f : yS), Nq s0 f → R138 b0 b1 f) {a1 : Int32} {a2 : Int32}  {s : yS} (h : Nq s0 s) : ub_215_138 (Par d) R138 a1 a2 s (fun v s' => (v = none) ∧ Nq s0 s') := by
  unfold ub_215_138
  intro _
  constructor
  · intro _
    exact ⟨rfl, h⟩
  · intro _
    intro _
    intro x1 _
    intro _
    constructor
    · intro _
      exact nl_215_161 hR138 h
    · intro _
      intro _
      intro x2 _
      intro _
      refine Par.imp (nl_163) ?_
      rintro v4 s3 ⟨rfl, h1⟩
      refine ⟨rfl, ?_⟩
      have h3 := nq_tr h h1
      exact nl_215_161 hR138 h3
theorem nm_215_138 {d : Nat} {s0 : yS}    {a1 : Int32} {a2 : Int32}  {s : yS} (h : Nq s0 s) : ubl_215_138 (Par d)  a1 a2 s (fun v s' => (v = none) ∧ Nq s0 s') :=
  ⟨fun z0 z1 f => Nq s0 f, h, fun _ _ _ h => nl_215_138 (fun _ _ _ q => q)  h⟩
theorem nl_215_129 {d : Nat} {s0 : yS}  {R79 : Int32 → Int32 → yS → Prop} {R84 : Int32 → Int32 → Int32 → yS → Prop} {R89 : Int32 → Int32 → Int32 → Int32 → yS → Prop} (hR79 : ∀ (b0 : Int32) (b1 : Int32) (f : yS), Nq s0 f → R79 b0 b1 f) (hR84 : ∀ (b0 : Int32) (b1 : Int32) (b2 : Int32) (f : yS), Nq s0 f → R84 b0 b1 b2 f) (hR89 : ∀ (b0 : Int32) (b1 : Int32) (b2 : Int32) (b3 : Int32) (f : yS), Nq s0 f → R89 b0 b1 b2 b3 f) {a1 : Int32} {a2 : Int32} {a3 : Int32} {a4 : Int32} {t1 : Int32} {t2 : Int32}  {s : yS} (h : Nq s0 s) : ub_215_129 (Par d) R79 R84 R89 a1 a2 a3 a4 t1 t2 s (fun v s' => (v = none) ∧ Nq s0 s') := by
  unfold ub_215_129
  intro _
  intro s1 e1
  have h2 := nq_sa e1 h (by decide)
  intro _
  intro x2 _
  exact hR89 _ _ _ _ _ h2
theorem nl_215_128 {d : Nat} {s0 : yS}  {R79 : Int32 → Int32 → yS → Prop} {R84 : Int32 → Int32 → Int32 → yS → Prop} {R89 : Int32 → Int32 → Int32 → Int32 → yS → Prop} (hR79 : ∀ (b0 : Int32) (b1 : Int32) (f : yS), Nq s0 f → R79 b0 b1 f) (hR84 : ∀ (b0 : Int32) (b1 : Int32) (b2 : Int32) (f : yS), Nq s0 f → R84 b0 b1 b2 f) (hR89 : ∀ (b0 : Int32) (b1 : Int32) (b2 : Int32) (b3 : Int32) (f : yS), Nq s0 f → R89 b0 b1 b2 b3 f) {a1 : Int32} {a2 : Int32} {a3 : Int32} {a4 : Int32} {t1 : Int32}  {s : yS} (h : Nq s0 s) : ub_215_128 (Par d) R79 R84 R89 a1 a2 a3 a4 t1 s (fun v s' => (v = none) ∧ Nq s0 s') := by
  unfold ub_215_128
  exact nl_215_129 hR79 hR84 hR89 h
theorem nl_215_126 {d : Nat} {s0 : yS}  {R79 : Int32 → Int32 → yS → Prop} {R84 : Int32 → Int32 → Int32 → yS → Prop} {R89 : Int32 → Int32 → Int32 → Int32 → yS → Prop} (hR79 : ∀ (b0 : Int32) (b1 : Int32) (f : yS), Nq s0 f → R79 b0 b1 f) (hR84 : ∀ (b0 : Int32) (b1 : Int32) (b2 : Int32) (f : yS), Nq s0 f → R84 b0 b1 b2 f) (hR89 : ∀ (b0 : Int32) (b1 : Int32) (b2 : Int32) (b3 : Int32) (f : yS), Nq s0 f → R89 b0 b1 b2 b3 f) {a1 : Int32} {a2 : Int32} {a3 : Int32} {a4 : Int32} {t1 : Int32}  {s : yS} (h : Nq s0 s) : ub_215_126 (Par d) R79 R84 R89 a1 a2 a3 a4 t1 s (fun v s' => (v = none) ∧ Nq s0 s') := by
  unfold ub_215_126
  exact nl_215_129 hR79 hR84 hR89 h
theorem nl_215_89 {d : Nat} {s0 : yS}  {R79 : Int32 → Int32 → yS → Prop} {R84 : Int32 → Int32 → Int32 → yS → Prop} {R89 : Int32 → Int32 → Int32 → Int32 → yS → Prop} (hR79 : ∀ (b0 : Int32) (b1 : Int32) (f : yS), Nq s0 f → R79 b0 b1 f) (hR84 : ∀ (b0 : Int32) (b1 : Int32) (b2 : Int32) (f : yS), Nq s0 f → R84 b0 b1 b2 f) (hR89 : ∀ (b0 : Int32) (b1 : Int32) (b2 : Int32) (b3 : Int32) (f : yS), Nq s0 f → R89 b0 b1 b2 b3 f) {a1 : Int32} {a2 : Int32} {a3 : Int32} {a4 : Int32}  {s : yS} (h : Nq s0 s) : ub_215_89 (Par d) R79 R84 R89 a1 a2 a3 a4 s (fun v s' => (v = none) ∧ Nq s0 s') := by
  unfold ub_215_89
  constructor
  · intro _
    intro _
    intro x1 _
    exact hR84 _ _ _ _ h
  · intro _
    intro _
    intro x2 _
    intro _
    intro x3 _
    intro _
    intro x4 _
    intro _
    intro x5 _
    intro _
    constructor
    · intro _
      exact nl_215_126 hR79 hR84 hR89 h
    · intro _
      intro _
      intro x6 _
      intro _
      intro x7 _
      intro _
      constructor
      · intro _
        exact nl_215_128 hR79 hR84 hR89 h
      · intro _
        intro _
        intro x8 _
        intro _
        intro x9 _
        intro _
        constructor
        · intro _
          exact nl_215_128 hR79 hR84 hR89 h
        · intro _
          exact nl_215_126 hR79 hR84 hR89 h
theorem nm_215_89 {d : Nat} {s0 : yS}  {R79 : Int32 → Int32 → yS → Prop} {R84 : Int32 → Int32 → Int32 → yS → Prop} (hR79 : ∀ (b0 : Int32) (b1 : Int32) (f : yS), Nq s0 f → R79 b0 b1 f) (hR84 : ∀ (b0 : Int32) (b1 : Int32) (b2 : Int32) (f : yS), Nq s0 f → R84 b0 b1 b2 f) {a1 : Int32} {a2 : Int32} {a3 : Int32} {a4 : Int32}  {s : yS} (h : Nq s0 s) : ubl_215_89 (Par d) R79 R84 a1 a2 a3 a4 s (fun v s' => (v = none) ∧ Nq s0 s') :=
  ⟨fun z0 z1 z2 z3 f => Nq s0 f, h, fun _ _ _ _ _ h => nl_215_89 hR79 hR84 (fun _ _ _ _ _ q => q)  h⟩
theorem nl_215_84 {d : Nat} {s0 : yS}  {R79 : Int32 → Int32 → yS → Prop} {R84 : Int32 → Int32 → Int32 → yS → Prop} (hR79 : ∀ (b0 : Int32) (b1 : Int32) (f : yS), Nq s0 f → R79 b0 b1 f) (hR84 : ∀ (b0 : Int32) (b1 : Int32) (b2 : Int32) (f : yS), Nq s0 f → R84 b0 b1 b2 f) {a1 : Int32} {a2 : Int32} {a3 : Int32}  {s : yS} (h : Nq s0 s) : ub_215_84 (Par d) R79 R84 a1 a2 a3 s (fun v s' => (v = none) ∧ Nq s0 s') := by
  unfold ub_215_84
  constructor
  · intro _
    intro _
    intro x1 _
    exact hR79 _ _ _ h
  · intro _
    exact nm_215_89 hR79 hR84 h
theorem nm_215_84 {d : Nat} {s0 : yS}  {R79 : Int32 → Int32 → yS → Prop} (hR79 : ∀ (b0 : Int32) (b1 : Int32) (f : yS), Nq s0 f → R79 b0 b1 f) {a1 : Int32} {a2 : Int32} {a3 : Int32}  {s : yS} (h : Nq s0 s) : ubl_215_84 (Par d) R79 a1 a2 a3 s (fun v s' => (v = none) ∧ Nq s0 s') :=
  ⟨fun z0 z1 z2 f => Nq s0 f, h, fun _ _ _ _ h => nl_215_84 hR79 (fun _ _ _ _ q => q)  h⟩
theorem nl_215_79 {d : Nat} {s0 : yS}  {R79 : Int32 → Int32 → yS → Prop} (hR79 : ∀ (b0 : Int32) (b1 : Int32) (f : yS), Nq s0 f → R79 b0 b1 f) {a1 : Int32} {a2 : Int32}  {s : yS} (h : Nq s0 s) : ub_215_79 (Par d) R79 a1 a2 s (fun v s' => (v = none) ∧ Nq s0 s') := by
  unfold ub_215_79
  constructor
  · intro _
    exact nm_215_138 h
  · intro _
    exact nm_215_84 hR79 h
theorem nm_215_79 {d : Nat} {s0 : yS}    {a1 : Int32} {a2 : Int32}  {s : yS} (h : Nq s0 s) : ubl_215_79 (Par d)  a1 a2 s (fun v s' => (v = none) ∧ Nq s0 s') :=
  ⟨fun z0 z1 f => Nq s0 f, h, fun _ _ _ h => nl_215_79 (fun _ _ _ q => q)  h⟩
theorem nl_215_73 {d : Nat} {s0 : yS}  {R19 : Int32 → Int32 → yS → Prop} {R28 : Int32 → Int32 → Int32 → yS → Prop} (hR19 : ∀ (b0 : Int32) (b1 : Int32) (f : yS), Nq s0 f → R19 b0 b1 f) (hR28 : ∀ (b0 : Int32) (b1 : Int32) (b2 : Int32) (f : yS), Nq s0 f → R28 b0 b1 b2 f) {a1 : Int32} {a2 : Int32} {a3 : Int32} {a4 : Int32}  {s : yS} (h : Nq s0 s) : ub_215_73 (Par d) R19 R28 a1 a2 a3 a4 s (fun v s' => (v = none) ∧ Nq s0 s') := by
  unfold ub_215_73
  intro _
  intro x1 _
  exact hR28 _ _ _ _ h
theorem nl_215_28 {d : Nat} {s0 : yS}  {R19 : Int32 → Int32 → yS → Prop} {R28 : Int32 → Int32 → Int32 → yS → Prop} (hR19 : ∀ (b0 : Int32) (b1 : Int32) (f : yS), Nq s0 f → R19 b0 b1 f) (hR28 : ∀ (b0 : Int32) (b1 : Int32) (b2 : Int32) (f : yS), Nq s0 f → R28 b0 b1 b2 f) {a1 : Int32} {a2 : Int32} {a3 : Int32}  {s : yS} (h : Nq s0 s) : ub_215_28 (Par d) R19 R28 a1 a2 a3 s (fun v s' => (v = none) ∧ Nq s0 s') := by
  unfold ub_215_28
  intro _
  intro x1 _
  intro _
  constructor
  · intro _
    intro _
    intro x2 _
    exact hR19 _ _ _ h
  · intro _
    intro _
    intro x3 _
    intro _
    intro x4 _
    intro _
    intro x5 _
    intro _
    intro _
    intro _
    refine Par.imp (nl_185) ?_
    rintro v7 s6 ⟨⟨x8, rfl⟩, h1⟩
    refine ⟨x8, rfl, ?_⟩
    have h3 := nq_tr h h1
    constructor
    · intro _
      exact nl_215_73 hR19 hR28 h3
    · intro _
      intro _
      intro x9 _
      intro _
      constructor
      · intro _
        exact nl_215_73 hR19 hR28 h3
      · intro _
        intro _
        intro x10 _
        intro _
        intro x11 _
        intro _
        intro s12 e4
        have h5 := nq_sa e4 h3 (by decide)
        exact nl_215_73 hR19 hR28 h5
theorem nm_215_28 {d : Nat} {s0 : yS}  {R19 : Int32 → Int32 → yS → Prop} (hR19 : ∀ (b0 : Int32) (b1 : Int32) (f : yS), Nq s0 f → R19 b0 b1 f) {a1 : Int32} {a2 : Int32} {a3 : Int32}  {s : yS} (h : Nq s0 s) : ubl_215_28 (Par d) R19 a1 a2 a3 s (fun v s' => (v = none) ∧ Nq s0 s') :=
  ⟨fun z0 z1 z2 f => Nq s0 f, h, fun _ _ _ _ h => nl_215_28 hR19 (fun _ _ _ _ q => q)  h⟩
theorem nl_215_19 {d : Nat} {s0 : yS}  {R19 : Int32 → Int32 → yS → Prop} (hR19 : ∀ (b0 : Int32) (b1 : Int32) (f : yS), Nq s0 f → R19 b0 b1 f) {a1 : Int32} {a2 : Int32}  {s : yS} (h : Nq s0 s) : ub_215_19 (Par d) R19 a1 a2 s (fun v s' => (v = none) ∧ Nq s0 s') := by
  unfold ub_215_19
  intro _
  constructor
  · intro _
    exact nm_215_79 h
  · intro _
    exact nm_215_28 hR19 h
theorem nm_215_19 {d : Nat} {s0 : yS}    {a1 : Int32} {a2 : Int32}  {s : yS} (h : Nq s0 s) : ubl_215_19 (Par d)  a1 a2 s (fun v s' => (v = none) ∧ Nq s0 s') :=
  ⟨fun z0 z1 f => Nq s0 f, h, fun _ _ _ h => nl_215_19 (fun _ _ _ q => q)  h⟩
theorem nl_215_7 {d : Nat} {s0 : yS}  {R7 : Int32 → Int32 → yS → Prop} (hR7 : ∀ (b0 : Int32) (b1 : Int32) (f : yS), Nq s0 f → R7 b0 b1 f) {a1 : Int32} {a2 : Int32}  {s : yS} (h : Nq s0 s) : ub_215_7 (Par d) R7 a1 a2 s (fun v s' => (v = none) ∧ Nq s0 s') := by
  unfold ub_215_7
  constructor
  · intro _
    exact nm_215_19 h
  · intro _
    intro _
    intro s1 e1
    have h2 := nq_sa e1 h (by decide)
    intro _
    intro x2 _
    exact hR7 _ _ _ h2
theorem nm_215_7 {d : Nat} {s0 : yS}    {a1 : Int32} {a2 : Int32}  {s : yS} (h : Nq s0 s) : ubl_215_7 (Par d)  a1 a2 s (fun v s' => (v = none) ∧ Nq s0 s') :=
  ⟨fun z0 z1 f => Nq s0 f, h, fun _ _ _ h => nl_215_7 (fun _ _ _ q => q)  h⟩
theorem nl_215_0 {d : Nat} {s0 : yS}      {s : yS} (h : Nq s0 s) : ub_215_0 (Par d)   s (fun v s' => (v = none) ∧ Nq s0 s') := by
  unfold ub_215_0
  intro _
  intro x1 _
  exact nm_215_7 h
theorem nl_215 {d : Nat}  {s : yS}  : Par d 215 [.ref 213] s (fun v s' => (v = none) ∧ Nq s s') := by
  cases d with
  | zero => exact Par_0
  | succ d => exact pb_215 (nl_215_0  ⟨rfl, rfl⟩)
theorem nl_216_0 {d : Nat} {s0 : yS}    {a1 : Int32} {a2 : Int32}  {s : yS} (h : Nq s0 s) : ub_216_0 (Par d)  a1 a2 s (fun v s' => (v = none) ∧ Nq s0 s') := by
  unfold ub_216_0
  intro s1 e1
  have h2 := nq_sf e1 h
  intro s2 e3
  have h4 := nq_sf e3 h2
  exact ⟨rfl, h4⟩
theorem nl_216 {d : Nat} {a1 : Int32} {a2 : Int32} {s : yS}  : Par d 216 [.ref 213, .int a1, .int a2] s (fun v s' => (v = none) ∧ Nq s s') := by
  cases d with
  | zero => exact Par_0
  | succ d => exact pb_216 (nl_216_0  ⟨rfl, rfl⟩)
theorem nl_219_68 {d : Nat} {s0 : yS}  {R68 : Int32 → Int32 → Int32 → Int32 → yS → Prop} (hR68 : ∀ (b0 : Int32) (b1 : Int32) (b2 : Int32) (b3 : Int32) (f : yS), Nq s0 f → R68 b0 b1 b2 b3 f) {a1 : Int32} {a2 : Int32} {a3 : Int32} {a4 : Int32}  {s : yS} (h : Nq s0 s) : ub_219_68 (Par d) R68 a1 a2 a3 a4 s (fun v s' => (v = none) ∧ Nq s0 s') := by
  unfold ub_219_68
  constructor
  · intro _
    exact ⟨rfl, h⟩
  · intro _
    intro _
    intro x1 _
    intro _
    intro x2 _
    intro _
    intro x3 _
    intro _
    intro x4 _
    intro _
    intro x5 _
    intro _
    intro x6 _
    intro _
    intro s7 e1
    have h2 := nq_sa e1 h (by decide)
    intro _
    intro x8 _
    intro s9 e3
    have h4 := nq_sf e3 h2
    intro _
    intro x10 _
    exact hR68 _ _ _ _ _ h4
theorem nm_219_68 {d : Nat} {s0 : yS}    {a1 : Int32} {a2 : Int32} {a3 : Int32} {a4 : Int32}  {s : yS} (h : Nq s0 s) : ubl_219_68 (Par d)  a1 a2 a3 a4 s (fun v s' => (v = none) ∧ Nq s0 s') :=
  ⟨fun z0 z1 z2 z3 f => Nq s0 f, h, fun _ _ _ _ _ h => nl_219_68 (fun _ _ _ _ _ q => q)  h⟩
theorem nl_219_0 {d : Nat} {s0 : yS}    {a1 : Int32}  {s : yS} (h : Nq s0 s) : ub_219_0 (Par d)  a1 s (fun v s' => (v = none) ∧ Nq s0 s') := by
  unfold ub_219_0
  intro _
  constructor
  · intro _
    intro _
    intro _
    intro x1 _
    refine Par.imp (nl_216) ?_
    rintro v3 s2 ⟨rfl, h1⟩
    refine ⟨rfl, ?_⟩
    have h3 := nq_tr h h1
    intro _
    intro _
    intro x4 _
    intro _
    intro x5 _
    intro _
    intro s6 e4
    have h5 := nq_sa e4 h3 (by decide)
    intro _
    intro x7 _
    intro s8 e6
    have h7 := nq_sf e6 h5
    exact nm_219_68 h7
  · intro _
    intro _
    intro _
    intro x9 _
    intro _
    intro x10 _
    intro _
    intro x11 _
    intro _
    intro _
    intro _
    refine Par.imp (nl_216) ?_
    rintro v13 s12 ⟨rfl, h8⟩
    refine ⟨rfl, ?_⟩
    have h10 := nq_tr h h8
    exact ⟨rfl, h10⟩
theorem nl_219 {d : Nat} {a1 : Int32} {s : yS}  : Par d 219 [.ref 213, .int a1] s (fun v s' => (v = none) ∧ Nq s s') := by
  cases d with
  | zero => exact Par_0
  | succ d => exact pb_219 (nl_219_0  ⟨rfl, rfl⟩)
theorem nl_218_72 {d : Nat} {s0 : yS}    {a1 : Int32} {a2 : Int32} {a3 : Int32}  {s : yS} (h : Nq s0 s) : ub_218_72 (Par d)  a1 a2 a3 s (fun v s' => (v = none) ∧ Nq s0 s') := by
  unfold ub_218_72
  intro _
  constructor
  · intro _
    refine Par.imp (nl_219) ?_
    rintro v2 s1 ⟨rfl, h1⟩
    refine ⟨rfl, ?_⟩
    have h3 := nq_tr h h1
    exact ⟨rfl, h3⟩
  · intro _
    intro _
    refine Par.imp (nl_163) ?_
    rintro v4 s3 ⟨rfl, h4⟩
    refine ⟨rfl, ?_⟩
    have h6 := nq_tr h h4
    exact ⟨rfl, h6⟩
theorem nl_218_70 {d : Nat} {s0 : yS}  {R33 : Int32 → Int32 → Int32 → yS → Prop} (hR33 : ∀ (b0 : Int32) (b1 : Int32) (b2 : Int32) (f : yS), Nq s0 f → R33 b0 b1 b2 f) {a1 : Int32} {a2 : Int32} {a3 : Int32}  {s : yS} (h : Nq s0 s) : ub_218_70 (Par d) R33 a1 a2 a3 s (fun v s' => (v = none) ∧ Nq s0 s') := by
  unfold ub_218_70
  intro _
  intro x1 _
  exact hR33 _ _ _ _ h
theorem nl_218_33 {d : Nat} {s0 : yS}  {R33 : Int32 → Int32 → Int32 → yS → Prop} (hR33 : ∀ (b0 : Int32) (b1 : Int32) (b2 : Int32) (f : yS), Nq s0 f → R33 b0 b1 b2 f) {a1 : Int32} {a2 : Int32} {a3 : Int32}  {s : yS} (h : Nq s0 s) : ub_218_33 (Par d) R33 a1 a2 a3 s (fun v s' => (v = none) ∧ Nq s0 s') := by
  unfold ub_218_33
  constructor
  · intro _
    exact nl_218_72 h
  · intro _
    intro _
    intro _
    constructor
    · intro _
      exact nl_218_72 h
    · intro _
      intro _
      intro _
      intro x1 _
      intro _
      intro x2 _
      intro _
      intro _
      constructor
      · intro _
        exact nl_218_70 hR33 h
      · intro _
        intro _
        intro x3 _
        intro _
        intro s4 e1
        have h2 := nq_sa e1 h (by decide)
        exact nl_218_70 hR33 h2
theorem nm_218_33 {d : Nat} {s0 : yS}    {a1 : Int32} {a2 : Int32} {a3 : Int32}  {s : yS} (h : Nq s0 s) : ubl_218_33 (Par d)  a1 a2 a3 s (fun v s' => (v = none) ∧ Nq s0 s') :=
  ⟨fun z0 z1 z2 f => Nq s0 f, h, fun _ _ _ _ h => nl_218_33 (fun _ _ _ _ q => q)  h⟩
theorem nl_218_31 {d : Nat} {s0 : yS}    {a1 : Int32} {a2 : Int32}  {s : yS} (h : Nq s0 s) : ub_218_31 (Par d)  a1 a2 s (fun v s' => (v = none) ∧ Nq s0 s') := by
  unfold ub_218_31
  exact nm_218_33 h
theorem nl_218_0 {d : Nat} {s0 : yS}    {a1 : Int32}  {s : yS} (h : Nq s0 s) : ub_218_0 (Par d)  a1 s (fun v s' => (v = none) ∧ Nq s0 s') := by
  unfold ub_218_0
  intro _
  intro _
  intro _
  intro s1 e1
  have h2 := nq_sa e1 h (by decide)
  constructor
  · intro _
    exact nl_218_31 h2
  · intro _
    intro _
    intro _
    constructor
    · intro _
      exact nl_218_31 h2
    · intro _
      intro _
      intro s2 e3
      have h4 := nq_sa e3 h2 (by decide)
      exact nl_218_31 h4
theorem nl_218 {d : Nat} {a1 : Int32} {s : yS}  : Par d 218 [.ref 213, .int a1] s (fun v s' => (v = none) ∧ Nq s s') := by
  cases d with
  | zero => exact Par_0
  | succ d => exact pb_218 (nl_218_0  ⟨rfl, rfl⟩)
theorem nl_220_24 {d : Nat} {s0 : yS}    {a1 : Int32} {t0 : Int32}  {s : yS} (h : Nq s0 s) : ub_220_24 (Par d)  a1 t0 s (fun v s' => (∃ x : Int32, v = some (.int x)) ∧ Nq s0 s') := by
  unfold ub_220_24
  intro _
  exact ⟨⟨_, rfl⟩, h⟩
theorem nl_220_23 {d : Nat} {s0 : yS}    {a1 : Int32}  {s : yS} (h : Nq s0 s) : ub_220_23 (Par d)  a1 s (fun v s' => (∃ x : Int32, v = some (.int x)) ∧ Nq s0 s') := by
  unfold ub_220_23
  exact nl_220_24 h
theorem nl_220_0 {d : Nat} {s0 : yS}    {a1 : Int32}  {s : yS} (h : Nq s0 s) : ub_220_0 (Par d)  a1 s (fun v s' => (∃ x : Int32, v = some (.int x)) ∧ Nq s0 s') := by
  unfold ub_220_0
  intro _
  refine Par.imp (nl_185) ?_
  rintro v2 s1 ⟨⟨x3, rfl⟩, h1⟩
  refine ⟨x3, rfl, ?_⟩
  have h3 := nq_tr h h1
  constructor
  · intro _
    exact nl_220_23 h3
  · intro _
    intro _
    intro x4 _
    intro _
    refine Par.imp (nl_185) ?_
    rintro v6 s5 ⟨⟨x7, rfl⟩, h4⟩
    refine ⟨x7, rfl, ?_⟩
    have h6 := nq_tr h3 h4
    intro _
    intro x8 _
    intro _
    constructor
    · intro _
      exact nl_220_23 h6
    · intro _
      exact nl_220_24 h6
theorem nl_220 {d : Nat} {a1 : Int32} {s : yS}  : Par d 220 [.ref 213, .int a1] s (fun v s' => (∃ x : Int32, v = some (.int x)) ∧ Nq s s') := by
  cases d with
  | zero => exact Par_0
  | succ d => exact pb_220 (nl_220_0  ⟨rfl, rfl⟩)
theorem nl_224_0 {d : Nat} {s0 : yS}    {a1 : Int32} {a2 : Int32}  {s : yS} (h : Nq s0 s) : ub_224_0 (Par d)  a1 a2 s (fun v s' => (∃ x : Int32, v = some (.int x)) ∧ Nq s0 s') := by
  unfold ub_224_0
  refine Par.imp (nl_188) ?_
  rintro v2 s1 ⟨⟨x3, rfl⟩, h1⟩
  refine ⟨x3, rfl, ?_⟩
  have h3 := nq_tr h h1
  intro _
  refine Par.imp (nl_185) ?_
  rintro v5 s4 ⟨⟨x6, rfl⟩, h4⟩
  refine ⟨x6, rfl, ?_⟩
  have h6 := nq_tr h3 h4
  intro _
  intro x7 _
  intro _
  intro x8 _
  refine Par.imp (nl_189) ?_
  rintro v10 s9 ⟨rfl, h7⟩
  refine ⟨rfl, ?_⟩
  have h9 := nq_tr h6 h7
  intro _
  intro x11 _
  intro _
  refine Par.imp (nl_185) ?_
  rintro v13 s12 ⟨⟨x14, rfl⟩, h10⟩
  refine ⟨x14, rfl, ?_⟩
  have h12 := nq_tr h9 h10
  intro _
  intro x15 _
  intro _
  intro x16 _
  intro _
  intro x17 _
  intro _
  intro _
  intro _
  refine Par.imp (nl_191) ?_
  rintro v19 s18 ⟨⟨x20, rfl⟩, h13⟩
  refine ⟨x20, rfl, ?_⟩
  have h15 := nq_tr h12 h13
  intro _
  intro x21 _
  intro s22 e16
  have h17 := nq_sf e16 h15
  refine Par.imp (nl_216) ?_
  rintro v24 s23 ⟨rfl, h18⟩
  refine ⟨rfl, ?_⟩
  have h20 := nq_tr h17 h18
  intro _
  exact ⟨⟨_, rfl⟩, h20⟩
theorem nl_224 {d : Nat} {a1 : Int32} {a2 : Int32} {s : yS}  : Par d 224 [.ref 213, .int a1, .int a2] s (fun v s' => (∃ x : Int32, v = some (.int x)) ∧ Nq s s') := by
  cases d with
  | zero => exact Par_0
  | succ d => exact pb_224 (nl_224_0  ⟨rfl, rfl⟩)
theorem nl_225_14 {d : Nat} {s0 : yS}  {R14 : Int32 → Int32 → yS → Prop} (hR14 : ∀ (b0 : Int32) (b1 : Int32) (f : yS), Nq s0 f → R14 b0 b1 f) {a1 : Int32} {a2 : Int32}  {s : yS} (h : Nq s0 s) : ub_225_14 (Par d) R14 a1 a2 s (fun v s' => (v = none) ∧ Nq s0 s') := by
  unfold ub_225_14
  constructor
  · intro _
    exact ⟨rfl, h⟩
  · intro _
    intro _
    intro x1 _
    intro _
    intro _
    intro s2 e1
    have h2 := nq_sa e1 h (by decide)
    intro _
    intro x3 _
    intro s4 e3
    have h4 := nq_sf e3 h2
    intro _
    intro x5 _
    exact hR14 _ _ _ h4
theorem nm_225_14 {d : Nat} {s0 : yS}    {a1 : Int32} {a2 : Int32}  {s : yS} (h : Nq s0 s) : ubl_225_14 (Par d)  a1 a2 s (fun v s' => (v = none) ∧ Nq s0 s') :=
  ⟨fun z0 z1 f => Nq s0 f, h, fun _ _ _ h => nl_225_14 (fun _ _ _ q => q)  h⟩
theorem nl_225_0 {d : Nat} {s0 : yS}    {a1 : Int32}  {s : yS} (h : Nq s0 s) : ub_225_0 (Par d)  a1 s (fun v s' => (v = none) ∧ Nq s0 s') := by
  unfold ub_225_0
  intro _
  intro s1 e1
  have h2 := nq_sa e1 h (by decide)
  intro _
  intro s2 e3
  have h4 := nq_sa e3 h2 (by decide)
  exact nm_225_14 h4
theorem nl_225 {d : Nat} {a1 : Int32} {s : yS}  : Par d 225 [.ref 213, .int a1] s (fun v s' => (v = none) ∧ Nq s s') := by
  cases d with
  | zero => exact Par_0
  | succ d => exact pb_225 (nl_225_0  ⟨rfl, rfl⟩)
theorem nl_227_27 {d : Nat} {s0 : yS}  {R27 : Int32 → Int32 → Int32 → Int32 → Int32 → yS → Prop} (hR27 : ∀ (b0 : Int32) (b1 : Int32) (b2 : Int32) (b3 : Int32) (b4 : Int32) (f : yS), Nq s0 f → R27 b0 b1 b2 b3 b4 f) {a1 : Int32} {a2 : Int32} {a3 : Int32} {a4 : Int32} {a5 : Int32}  {s : yS} (h : Nq s0 s) : ub_227_27 (Par d) R27 a1 a2 a3 a4 a5 s (fun v s' => (v = none) ∧ Nq s0 s') := by
  unfold ub_227_27
  constructor
  · intro _
    exact ⟨rfl, h⟩
  · intro _
    intro _
    intro x1 _
    intro _
    intro _
    intro x2 _
    intro _
    intro _
    intro s3 e1
    have h2 := nq_sa e1 h (by decide)
    intro _
    intro x4 _
    intro _
    intro _
    intro x5 _
    intro _
    intro _
    intro s6 e3
    have h4 := nq_sa e3 h2 (by decide)
    intro _
    intro _
    intro x7 _
    intro _
    intro s8 e5
    have h6 := nq_sa e5 h4 (by decide)
    intro _
    exact hR27 _ _ _ _ _ _ h6
theorem nm_227_27 {d : Nat} {s0 : yS}    {a1 : Int32} {a2 : Int32} {a3 : Int32} {a4 : Int32} {a5 : Int32}  {s : yS} (h : Nq s0 s) : ubl_227_27 (Par d)  a1 a2 a3 a4 a5 s (fun v s' => (v = none) ∧ Nq s0 s') :=
  ⟨fun z0 z1 z2 z3 z4 f => Nq s0 f, h, fun _ _ _ _ _ _ h => nl_227_27 (fun _ _ _ _ _ _ q => q)  h⟩
theorem nl_227_0 {d : Nat} {s0 : yS}    {a1 : Int32} {a2 : Int32} {a3 : Int32}  {s : yS} (h : Nq s0 s) : ub_227_0 (Par d)  a1 a2 a3 s (fun v s' => (v = none) ∧ Nq s0 s') := by
  unfold ub_227_0
  intro _
  intro x1 _
  intro _
  intro x2 _
  intro _
  intro x3 _
  intro _
  intro x4 _
  intro _
  intro x5 _
  intro _
  intro x6 _
  intro _
  intro s7 e1
  have h2 := nq_sa e1 h (by decide)
  intro _
  intro s8 e3
  have h4 := nq_sa e3 h2 (by decide)
  exact nm_227_27 h4
theorem nl_227 {d : Nat} {a1 : Int32} {a2 : Int32} {a3 : Int32} {s : yS}  : Par d 227 [.ref 213, .int a1, .int a2, .int a3] s (fun v s' => (v = none) ∧ Nq s s') := by
  cases d with
  | zero => exact Par_0
  | succ d => exact pb_227 (nl_227_0  ⟨rfl, rfl⟩)
theorem nl_217_0 {d : Nat} {s0 : yS} (i217 : ∀ (a1 : Int32) (s : yS), Par d 217 [.ref 213, .int a1] s (fun v s' => (v = none) ∧ Nq s s')) (i221 : ∀ (a1 : Int32) (s : yS), Par d 221 [.ref 213, .int a1] s (fun v s' => (v = none) ∧ Nq s s')) (i222 : ∀ (a1 : Int32) (a2 : Int32) (a3 : Int32) (s : yS), Par d 222 [.ref 213, .int a1, .int a2, .int a3] s (fun v s' => (v = none) ∧ Nq s s')) (i223 : ∀ (a1 : Int32) (s : yS), Par d 223 [.ref 213, .int a1] s (fun v s' => (v = none) ∧ Nq s s')) (i226 : ∀ (a1 : Int32) (s : yS), Par d 226 [.ref 213, .int a1] s (fun v s' => (v = none) ∧ Nq s s')) (i228 : ∀ (a1 : Int32) (s : yS), Par d 228 [.ref 213, .int a1] s (fun v s' => (v = none) ∧ Nq s s'))   {a1 : Int32}  {s : yS} (h : Nq s0 s) : ub_217_0 (Par d)  a1 s (fun v s' => (v = none) ∧ Nq s0 s') := by
  unfold ub_217_0
  constructor
  · intro _
    intro _
    constructor
    · intro _
      refine Par.imp (i228 _ _) ?_
      rintro v2 s1 ⟨rfl, h1⟩
      refine ⟨rfl, ?_⟩
      have h3 := nq_tr h h1
      exact ⟨rfl, h3⟩
    · constructor
      · intro _
        refine Par.imp (nl_218) ?_
        rintro v4 s3 ⟨rfl, h4⟩
        refine ⟨rfl, ?_⟩
        have h6 := nq_tr h h4
        exact ⟨rfl, h6⟩
      · constructor
        · intro _
          refine Par.imp (i221 _ _) ?_
          rintro v6 s5 ⟨rfl, h7⟩
          refine ⟨rfl, ?_⟩
          have h9 := nq_tr h h7
          exact ⟨rfl, h9⟩
        · constructor
          · intro _
            refine Par.imp (i223 _ _) ?_
            rintro v8 s7 ⟨rfl, h10⟩
            refine ⟨rfl, ?_⟩
            have h12 := nq_tr h h10
            exact ⟨rfl, h12⟩
          · intro _
            refine Par.imp (i226 _ _) ?_
            rintro v10 s9 ⟨rfl, h13⟩
            refine ⟨rfl, ?_⟩
            have h15 := nq_tr h h13
            exact ⟨rfl, h15⟩
  · intro _
    exact ⟨rfl, h⟩
theorem nl_221_118 {d : Nat} {s0 : yS} (i217 : ∀ (a1 : Int32) (s : yS), Par d 217 [.ref 213, .int a1] s (fun v s' => (v = none) ∧ Nq s s')) (i221 : ∀ (a1 : Int32) (s : yS), Par d 221 [.ref 213, .int a1] s (fun v s' => (v = none) ∧ Nq s s')) (i222 : ∀ (a1 : Int32) (a2 : Int32) (a3 : Int32) (s : yS), Par d 222 [.ref 213, .int a1, .int a2, .int a3] s (fun v s' => (v = none) ∧ Nq s s')) (i223 : ∀ (a1 : Int32) (s : yS), Par d 223 [.ref 213, .int a1] s (fun v s' => (v = none) ∧ Nq s s')) (i226 : ∀ (a1 : Int32) (s : yS), Par d 226 [.ref 213, .int a1] s (fun v s' => (v = none) ∧ Nq s s')) (i228 : ∀ (a1 : Int32) (s : yS), Par d 228 [.ref 213, .int a1] s (fun v s' => (v = none) ∧ Nq s s'))   {a1 : Int32} {a2 : Int32} {a3 : Int32} {a4 : Int32} {a5 : Int32} {a6 : Int32}  {s : yS} (h : Nq s0 s) : ub_221_118 (Par d)  a1 a2 a3 a4 a5 a6 s (fun v s' => (v = none) ∧ Nq s0 s') := by
  unfold ub_221_118
  intro _
  intro x1 _
  intro s2 e1
  have h2 := nq_sf e1 h
  intro _
  intro _
  refine Par.imp (nl_216) ?_
  rintro v4 s3 ⟨rfl, h3⟩
  refine ⟨rfl, ?_⟩
  have h5 := nq_tr h2 h3
  exact ⟨rfl, h5⟩
theorem nl_221_94 {d : Nat} {s0 : yS} (i217 : ∀ (a1 : Int32) (s : yS), Par d 217 [.ref 213, .int a1] s (fun v s' => (v = none) ∧ Nq s s')) (i221 : ∀ (a1 : Int32) (s : yS), Par d 221 [.ref 213, .int a1] s (fun v s' => (v = none) ∧ Nq s s')) (i222 : ∀ (a1 : Int32) (a2 : Int32) (a3 : Int32) (s : yS), Par d 222 [.ref 213, .int a1, .int a2, .int a3] s (fun v s' => (v = none) ∧ Nq s s')) (i223 : ∀ (a1 : Int32) (s : yS), Par d 223 [.ref 213, .int a1] s (fun v s' => (v = none) ∧ Nq s s')) (i226 : ∀ (a1 : Int32) (s : yS), Par d 226 [.ref 213, .int a1] s (fun v s' => (v = none) ∧ Nq s s')) (i228 : ∀ (a1 : Int32) (s : yS), Par d 228 [.ref 213, .int a1] s (fun v s' => (v = none) ∧ Nq s s')) {R94 : Int32 → Int32 → Int32 → Int32 → Int32 → Int32 → yS → Prop} (hR94 : ∀ (b0 : Int32) (b1 : Int32) (b2 : Int32) (b3 : Int32) (b4 : Int32) (b5 : Int32) (f : yS), Nq s0 f → R94 b0 b1 b2 b3 b4 b5 f) {a1 : Int32} {a2 : Int32} {a3 : Int32} {a4 : Int32} {a5 : Int32} {a6 : Int32}  {s : yS} (h : Nq s0 s) : ub_221_94 (Par d) R94 a1 a2 a3 a4 a5 a6 s (fun v s' => (v = none) ∧ Nq s0 s') := by
  unfold ub_221_94
  constructor
  · intro _
    exact nl_221_118 i217 i221 i222 i223 i226 i228 h
  · intro _
    constructor
    · intro _
      exact nl_221_118 i217 i221 i222 i223 i226 i228 h
    · intro _
      intro _
      intro x1 _
      intro _
      intro x2 _
      intro _
      refine Par.imp (i222 _ _ _ _) ?_
      rintro v4 s3 ⟨rfl, h1⟩
      refine ⟨rfl, ?_⟩
      have h3 := nq_tr h h1
      intro _
      intro x5 _
      intro _
      exact hR94 _ _ _ _ _ _ _ h3
theorem nm_221_94 {d : Nat} {s0 : yS} (i217 : ∀ (a1 : Int32) (s : yS), Par d 217 [.ref 213, .int a1] s (fun v s' => (v = none) ∧ Nq s s')) (i221 : ∀ (a1 : Int32) (s : yS), Par d 221 [.ref 213, .int a1] s (fun v s' => (v = none) ∧ Nq s s')) (i222 : ∀ (a1 : Int32) (a2 : Int32) (a3 : Int32) (s : yS), Par d 222 [.ref 213, .int a1, .int a2, .int a3] s (fun v s' => (v = none) ∧ Nq s s')) (i223 : ∀ (a1 : Int32) (s : yS), Par d 223 [.ref 213, .int a1] s (fun v s' => (v = none) ∧ Nq s s')) (i226 : ∀ (a1 : Int32) (s : yS), Par d 226 [.ref 213, .int a1] s (fun v s' => (v = none) ∧ Nq s s')) (i228 : ∀ (a1 : Int32) (s : yS), Par d 228 [.ref 213, .int a1] s (fun v s' => (v = none) ∧ Nq s s'))   {a1 : Int32} {a2 : Int32} {a3 : Int32} {a4 : Int32} {a5 : Int32} {a6 : Int32}  {s : yS} (h : Nq s0 s) : ubl_221_94 (Par d)  a1 a2 a3 a4 a5 a6 s (fun v s' => (v = none) ∧ Nq s0 s') :=
  ⟨fun z0 z1 z2 z3 z4 z5 f => Nq s0 f, h, fun _ _ _ _ _ _ _ h => nl_221_94 i217 i221 i222 i223 i226 i228 (fun _ _ _ _ _ _ _ q => q)  h⟩
theorem nl_221_64 {d : Nat} {s0 : yS} (i217 : ∀ (a1 : Int32) (s : yS), Par d 217 [.ref 213, .int a1] s (fun v s' => (v = none) ∧ Nq s s')) (i221 : ∀ (a1 : Int32) (s : yS), Par d 221 [.ref 213, .int a1] s (fun v s' => (v = none) ∧ Nq s s')) (i222 : ∀ (a1 : Int32) (a2 : Int32) (a3 : Int32) (s : yS), Par d 222 [.ref 213, .int a1, .int a2, .int a3] s (fun v s' => (v = none) ∧ Nq s s')) (i223 : ∀ (a1 : Int32) (s : yS), Par d 223 [.ref 213, .int a1] s (fun v s' => (v = none) ∧ Nq s s')) (i226 : ∀ (a1 : Int32) (s : yS), Par d 226 [.ref 213, .int a1] s (fun v s' => (v = none) ∧ Nq s s')) (i228 : ∀ (a1 : Int32) (s : yS), Par d 228 [.ref 213, .int a1] s (fun v s' => (v = none) ∧ Nq s s'))   {a1 : Int32} {a2 : Int32} {a3 : Int32}  {s : yS} (h : Nq s0 s) : ub_221_64 (Par d)  a1 a2 a3 s (fun v s' => (v = none) ∧ Nq s0 s') := by
  unfold ub_221_64
  refine Par.imp (nl_188) ?_
  rintro v2 s1 ⟨⟨x3, rfl⟩, h1⟩
  refine ⟨x3, rfl, ?_⟩
  have h3 := nq_tr h h1
  intro _
  intro _
  refine Par.imp (nl_185) ?_
  rintro v5 s4 ⟨⟨x6, rfl⟩, h4⟩
  refine ⟨x6, rfl, ?_⟩
  have h6 := nq_tr h3 h4
  intro _
  intro x7 _
  intro _
  intro x8 _
  intro _
  refine Par.imp (nl_189) ?_
  rintro v10 s9 ⟨rfl, h7⟩
  refine ⟨rfl, ?_⟩
  have h9 := nq_tr h6 h7
  intro _
  exact nm_221_94 i217 i221 i222 i223 i226 i228 h9
theorem nl_221_15 {d : Nat} {s0 : yS} (i217 : ∀ (a1 : Int32) (s : yS), Par d 217 [.ref 213, .int a1] s (fun v s' => (v = none) ∧ Nq s s')) (i221 : ∀ (a1 : Int32) (s : yS), Par d 221 [.ref 213, .int a1] s (fun v s' => (v = none) ∧ Nq s s')) (i222 : ∀ (a1 : Int32) (a2 : Int32) (a3 : Int32) (s : yS), Par d 222 [.ref 213, .int a1, .int a2, .int a3] s (fun v s' => (v = none) ∧ Nq s s')) (i223 : ∀ (a1 : Int32) (s : yS), Par d 223 [.ref 213, .int a1] s (fun v s' => (v = none) ∧ Nq s s')) (i226 : ∀ (a1 : Int32) (s : yS), Par d 226 [.ref 213, .int a1] s (fun v s' => (v = none) ∧ Nq s s')) (i228 : ∀ (a1 : Int32) (s : yS), Par d 228 [.ref 213, .int a1] s (fun v s' => (v = none) ∧ Nq s s'))   {a1 : Int32} {a2 : Int32}  {s : yS} (h : Nq s0 s) : ub_221_15 (Par d)  a1 a2 s (fun v s' => (v = none) ∧ Nq s0 s') := by
  unfold ub_221_15
  constructor
  · intro _
    intro _
    intro x1 _
    intro _
    intro _
    refine Par.imp (nl_185) ?_
    rintro v3 s2 ⟨⟨x4, rfl⟩, h1⟩
    refine ⟨x4, rfl, ?_⟩
    have h3 := nq_tr h h1
    intro _
    intro x5 _
    intro _
    refine Par.imp (nl_220) ?_
    rintro v7 s6 ⟨⟨x8, rfl⟩, h4⟩
    refine ⟨x8, rfl, ?_⟩
    have h6 := nq_tr h3 h4
    constructor
    · intro _
      intro _
      intro _
      constructor
      · intro _
        exact nl_221_64 i217 i221 i222 i223 i226 i228 h6
      · intro _
        intro _
        refine Par.imp (nl_163) ?_
        rintro v10 s9 ⟨rfl, h7⟩
        refine ⟨rfl, ?_⟩
        have h9 := nq_tr h6 h7
        exact nl_221_64 i217 i221 i222 i223 i226 i228 h9
    · intro _
      intro _
      refine Par.imp (nl_163) ?_
      rintro v12 s11 ⟨rfl, h10⟩
      refine ⟨rfl, ?_⟩
      have h12 := nq_tr h6 h10
      exact ⟨rfl, h12⟩
  · intro _
    exact ⟨rfl, h⟩
theorem nl_221_0 {d : Nat} {s0 : yS} (i217 : ∀ (a1 : Int32) (s : yS), Par d 217 [.ref 213, .int a1] s (fun v s' => (v = none) ∧ Nq s s')) (i221 : ∀ (a1 : Int32) (s : yS), Par d 221 [.ref 213, .int a1] s (fun v s' => (v = none) ∧ Nq s s')) (i222 : ∀ (a1 : Int32) (a2 : Int32) (a3 : Int32) (s : yS), Par d 222 [.ref 213, .int a1, .int a2, .int a3] s (fun v s' => (v = none) ∧ Nq s s')) (i223 : ∀ (a1 : Int32) (s : yS), Par d 223 [.ref 213, .int a1] s (fun v s' => (v = none) ∧ Nq s s')) (i226 : ∀ (a1 : Int32) (s : yS), Par d 226 [.ref 213, .int a1] s (fun v s' => (v = none) ∧ Nq s s')) (i228 : ∀ (a1 : Int32) (s : yS), Par d 228 [.ref 213, .int a1] s (fun v s' => (v = none) ∧ Nq s s'))   {a1 : Int32}  {s : yS} (h : Nq s0 s) : ub_221_0 (Par d)  a1 s (fun v s' => (v = none) ∧ Nq s0 s') := by
  unfold ub_221_0
  intro _
  refine Par.imp (nl_204) ?_
  rintro v2 s1 ⟨rfl, h1⟩
  refine ⟨rfl, ?_⟩
  have h3 := nq_tr h h1
  constructor
  · intro _
    exact nl_221_15 i217 i221 i222 i223 i226 i228 h3
  · intro _
    refine Par.imp (nl_211) ?_
    rintro v4 s3 ⟨rfl, h4⟩
    refine ⟨rfl, ?_⟩
    have h6 := nq_tr h3 h4
    exact nl_221_15 i217 i221 i222 i223 i226 i228 h6
theorem nl_222_20 {d : Nat} {s0 : yS} (i217 : ∀ (a1 : Int32) (s : yS), Par d 217 [.ref 213, .int a1] s (fun v s' => (v = none) ∧ Nq s s')) (i221 : ∀ (a1 : Int32) (s : yS), Par d 221 [.ref 213, .int a1] s (fun v s' => (v = none) ∧ Nq s s')) (i222 : ∀ (a1 : Int32) (a2 : Int32) (a3 : Int32) (s : yS), Par d 222 [.ref 213, .int a1, .int a2, .int a3] s (fun v s' => (v = none) ∧ Nq s s')) (i223 : ∀ (a1 : Int32) (s : yS), Par d 223 [.ref 213, .int a1] s (fun v s' => (v = none) ∧ Nq s s')) (i226 : ∀ (a1 : Int32) (s : yS), Par d 226 [.ref 213, .int a1] s (fun v s' => (v = none) ∧ Nq s s')) (i228 : ∀ (a1 : Int32) (s : yS), Par d 228 [.ref 213, .int a1] s (fun v s' => (v = none) ∧ Nq s s'))   {a1 : Int32} {a2 : Int32} {a3 : Int32} {a4 : Int32}  {s : yS} (h : Nq s0 s) : ub_222_20 (Par d)  a1 a2 a3 a4 s (fun v s' => (v = none) ∧ Nq s0 s') := by
  unfold ub_222_20
  intro s1 e1
  have h2 := nq_sf e1 h
  exact ⟨rfl, h2⟩
theorem nl_222_0 {d : Nat} {s0 : yS} (i217 : ∀ (a1 : Int32) (s : yS), Par d 217 [.ref 213, .int a1] s (fun v s' => (v = none) ∧ Nq s s')) (i221 : ∀ (a1 : Int32) (s : yS), Par d 221 [.ref 213, .int a1] s (fun v s' => (v = none) ∧ Nq s s')) (i222 : ∀ (a1 : Int32) (a2 : Int32) (a3 : Int32) (s : yS), Par d 222 [.ref 213, .int a1, .int a2, .int a3] s (fun v s' => (v = none) ∧ Nq s s')) (i223 : ∀ (a1 : Int32) (s : yS), Par d 223 [.ref 213, .int a1] s (fun v s' => (v = none) ∧ Nq s s')) (i226 : ∀ (a1 : Int32) (s : yS), Par d 226 [.ref 213, .int a1] s (fun v s' => (v = none) ∧ Nq s s')) (i228 : ∀ (a1 : Int32) (s : yS), Par d 228 [.ref 213, .int a1] s (fun v s' => (v = none) ∧ Nq s s'))   {a1 : Int32} {a2 : Int32} {a3 : Int32}  {s : yS} (h : Nq s0 s) : ub_222_0 (Par d)  a1 a2 a3 s (fun v s' => (v = none) ∧ Nq s0 s') := by
  unfold ub_222_0
  refine Par.imp (i217 _ _) ?_
  rintro v2 s1 ⟨rfl, h1⟩
  refine ⟨rfl, ?_⟩
  have h3 := nq_tr h h1
  constructor
  · intro _
    exact nl_222_20 i217 i221 i222 i223 i226 i228 h3
  · intro _
    refine Par.imp (nl_178) ?_
    rintro v4 s3 ⟨⟨x5, rfl⟩, h4⟩
    refine ⟨x5, rfl, ?_⟩
    have h6 := nq_tr h3 h4
    refine Par.imp (nl_212) ?_
    rintro v7 s6 ⟨rfl, h7⟩
    refine ⟨rfl, ?_⟩
    have h9 := nq_tr h6 h7
    exact nl_222_20 i217 i221 i222 i223 i226 i228 h9
theorem nl_223_98 {d : Nat} {s0 : yS} (i217 : ∀ (a1 : Int32) (s : yS), Par d 217 [.ref 213, .int a1] s (fun v s' => (v = none) ∧ Nq s s')) (i221 : ∀ (a1 : Int32) (s : yS), Par d 221 [.ref 213, .int a1] s (fun v s' => (v = none) ∧ Nq s s')) (i222 : ∀ (a1 : Int32) (a2 : Int32) (a3 : Int32) (s : yS), Par d 222 [.ref 213, .int a1, .int a2, .int a3] s (fun v s' => (v = none) ∧ Nq s s')) (i223 : ∀ (a1 : Int32) (s : yS), Par d 223 [.ref 213, .int a1] s (fun v s' => (v = none) ∧ Nq s s')) (i226 : ∀ (a1 : Int32) (s : yS), Par d 226 [.ref 213, .int a1] s (fun v s' => (v = none) ∧ Nq s s')) (i228 : ∀ (a1 : Int32) (s : yS), Par d 228 [.ref 213, .int a1] s (fun v s' => (v = none) ∧ Nq s s'))   {a1 : Int32} {a2 : Int32} {a3 : Int32} {a4 : Int32}  {s : yS} (h : Nq s0 s) : ub_223_98 (Par d)  a1 a2 a3 a4 s (fun v s' => (v = none) ∧ Nq s0 s') := by
  unfold ub_223_98
  exact ⟨rfl, h⟩
theorem nl_223_67 {d : Nat} {s0 : yS} (i217 : ∀ (a1 : Int32) (s : yS), Par d 217 [.ref 213, .int a1] s (fun v s' => (v = none) ∧ Nq s s')) (i221 : ∀ (a1 : Int32) (s : yS), Par d 221 [.ref 213, .int a1] s (fun v s' => (v = none) ∧ Nq s s')) (i222 : ∀ (a1 : Int32) (a2 : Int32) (a3 : Int32) (s : yS), Par d 222 [.ref 213, .int a1, .int a2, .int a3] s (fun v s' => (v = none) ∧ Nq s s')) (i223 : ∀ (a1 : Int32) (s : yS), Par d 223 [.ref 213, .int a1] s (fun v s' => (v = none) ∧ Nq s s')) (i226 : ∀ (a1 : Int32) (s : yS), Par d 226 [.ref 213, .int a1] s (fun v s' => (v = none) ∧ Nq s s')) (i228 : ∀ (a1 : Int32) (s : yS), Par d 228 [.ref 213, .int a1] s (fun v s' => (v = none) ∧ Nq s s')) {R39 : Int32 → Int32 → Int32 → Int32 → yS → Prop} (hR39 : ∀ (b0 : Int32) (b1 : Int32) (b2 : Int32) (b3 : Int32) (f : yS), Nq s0 f → R39 b0 b1 b2 b3 f) {a1 : Int32} {a2 : Int32} {a3 : Int32} {a4 : Int32} {t0 : Int32}  {s : yS} (h : Nq s0 s) : ub_223_67 (Par d) R39 a1 a2 a3 a4 t0 s (fun v s' => (v = none) ∧ Nq s0 s') := by
  unfold ub_223_67
  intro _
  intro x1 _
  exact hR39 _ _ _ _ _ h
theorem nl_223_39 {d : Nat} {s0 : yS} (i217 : ∀ (a1 : Int32) (s : yS), Par d 217 [.ref 213, .int a1] s (fun v s' => (v = none) ∧ Nq s s')) (i221 : ∀ (a1 : Int32) (s : yS), Par d 221 [.ref 213, .int a1] s (fun v s' => (v = none) ∧ Nq s s')) (i222 : ∀ (a1 : Int32) (a2 : Int32) (a3 : Int32) (s : yS), Par d 222 [.ref 213, .int a1, .int a2, .int a3] s (fun v s' => (v = none) ∧ Nq s s')) (i223 : ∀ (a1 : Int32) (s : yS), Par d 223 [.ref 213, .int a1] s (fun v s' => (v = none) ∧ Nq s s')) (i226 : ∀ (a1 : Int32) (s : yS), Par d 226 [.ref 213, .int a1] s (fun v s' => (v = none) ∧ Nq s s')) (i228 : ∀ (a1 : Int32) (s : yS), Par d 228 [.ref 213, .int a1] s (fun v s' => (v = none) ∧ Nq s s')) {R39 : Int32 → Int32 → Int32 → Int32 → yS → Prop} (hR39 : ∀ (b0 : Int32) (b1 : Int32) (b2 : Int32) (b3 : Int32) (f : yS), Nq s0 f → R39 b0 b1 b2 b3 f) {a1 : Int32} {a2 : Int32} {a3 : Int32} {a4 : Int32}  {s : yS} (h : Nq s0 s) : ub_223_39 (Par d) R39 a1 a2 a3 a4 s (fun v s' => (v = none) ∧ Nq s0 s') := by
  unfold ub_223_39
  intro _
  constructor
  · intro _
    constructor
    · intro _
      intro _
      intro s1 e1
      have h2 := nq_sa e1 h (by decide)
      refine Par.imp (nl_224) ?_
      rintro v3 s2 ⟨⟨x4, rfl⟩, h3⟩
      refine ⟨x4, rfl, ?_⟩
      have h5 := nq_tr h2 h3
      constructor
      · intro _
        exact nl_223_98 i217 i221 i222 i223 i226 i228 h5
      · intro _
        intro _
        refine Par.imp (nl_163) ?_
        rintro v6 s5 ⟨rfl, h6⟩
        refine ⟨rfl, ?_⟩
        have h8 := nq_tr h5 h6
        exact nl_223_98 i217 i221 i222 i223 i226 i228 h8
    · intro _
      intro _
      refine Par.imp (nl_163) ?_
      rintro v8 s7 ⟨rfl, h9⟩
      refine ⟨rfl, ?_⟩
      have h11 := nq_tr h h9
      exact ⟨rfl, h11⟩
  · intro _
    intro _
    intro x9 _
    intro _
    intro x10 _
    intro _
    intro _
    intro _
    intro _
    constructor
    · intro _
      exact nl_223_67 i217 i221 i222 i223 i226 i228 hR39 h
    · intro _
      exact nl_223_67 i217 i221 i222 i223 i226 i228 hR39 h
theorem nm_223_39 {d : Nat} {s0 : yS} (i217 : ∀ (a1 : Int32) (s : yS), Par d 217 [.ref 213, .int a1] s (fun v s' => (v = none) ∧ Nq s s')) (i221 : ∀ (a1 : Int32) (s : yS), Par d 221 [.ref 213, .int a1] s (fun v s' => (v = none) ∧ Nq s s')) (i222 : ∀ (a1 : Int32) (a2 : Int32) (a3 : Int32) (s : yS), Par d 222 [.ref 213, .int a1, .int a2, .int a3] s (fun v s' => (v = none) ∧ Nq s s')) (i223 : ∀ (a1 : Int32) (s : yS), Par d 223 [.ref 213, .int a1] s (fun v s' => (v = none) ∧ Nq s s')) (i226 : ∀ (a1 : Int32) (s : yS), Par d 226 [.ref 213, .int a1] s (fun v s' => (v = none) ∧ Nq s s')) (i228 : ∀ (a1 : Int32) (s : yS), Par d 228 [.ref 213, .int a1] s (fun v s' => (v = none) ∧ Nq s s'))   {a1 : Int32} {a2 : Int32} {a3 : Int32} {a4 : Int32}  {s : yS} (h : Nq s0 s) : ubl_223_39 (Par d)  a1 a2 a3 a4 s (fun v s' => (v = none) ∧ Nq s0 s') :=
  ⟨fun z0 z1 z2 z3 f => Nq s0 f, h, fun _ _ _ _ _ h => nl_223_39 i217 i221 i222 i223 i226 i228 (fun _ _ _ _ _ q => q)  h⟩
theorem nl_223_0 {d : Nat} {s0 : yS} (i217 : ∀ (a1 : Int32) (s : yS), Par d 217 [.ref 213, .int a1] s (fun v s' => (v = none) ∧ Nq s s')) (i221 : ∀ (a1 : Int32) (s : yS), Par d 221 [.ref 213, .int a1] s (fun v s' => (v = none) ∧ Nq s s')) (i222 : ∀ (a1 : Int32) (a2 : Int32) (a3 : Int32) (s : yS), Par d 222 [.ref 213, .int a1, .int a2, .int a3] s (fun v s' => (v = none) ∧ Nq s s')) (i223 : ∀ (a1 : Int32) (s : yS), Par d 223 [.ref 213, .int a1] s (fun v s' => (v = none) ∧ Nq s s')) (i226 : ∀ (a1 : Int32) (s : yS), Par d 226 [.ref 213, .int a1] s (fun v s' => (v = none) ∧ Nq s s')) (i228 : ∀ (a1 : Int32) (s : yS), Par d 228 [.ref 213, .int a1] s (fun v s' => (v = none) ∧ Nq s s'))   {a1 : Int32}  {s : yS} (h : Nq s0 s) : ub_223_0 (Par d)  a1 s (fun v s' => (v = none) ∧ Nq s0 s') := by
  unfold ub_223_0
  intro _
  refine Par.imp (i217 _ _) ?_
  rintro v2 s1 ⟨rfl, h1⟩
  refine ⟨rfl, ?_⟩
  have h3 := nq_tr h h1
  constructor
  · intro _
    refine Par.imp (nl_220) ?_
    rintro v4 s3 ⟨⟨x5, rfl⟩, h4⟩
    refine ⟨x5, rfl, ?_⟩
    have h6 := nq_tr h3 h4
    constructor
    · intro _
      intro _
      intro x6 _
      intro _
      refine Par.imp (nl_185) ?_
      rintro v8 s7 ⟨⟨x9, rfl⟩, h7⟩
      refine ⟨x9, rfl, ?_⟩
      have h9 := nq_tr h6 h7
      intro _
      intro x10 _
      exact nm_223_39 i217 i221 i222 i223 i226 i228 h9
    · intro _
      intro _
      refine Par.imp (nl_163) ?_
      rintro v12 s11 ⟨rfl, h10⟩
      refine ⟨rfl, ?_⟩
      have h12 := nq_tr h6 h10
      exact ⟨rfl, h12⟩
  · intro _
    exact ⟨rfl, h3⟩
theorem nl_226_241 {d : Nat} {s0 : yS} (i217 : ∀ (a1 : Int32) (s : yS), Par d 217 [.ref 213, .int a1] s (fun v s' => (v = none) ∧ Nq s s')) (i221 : ∀ (a1 : Int32) (s : yS), Par d 221 [.ref 213, .int a1] s (fun v s' => (v = none) ∧ Nq s s')) (i222 : ∀ (a1 : Int32) (a2 : Int32) (a3 : Int32) (s : yS), Par d 222 [.ref 213, .int a1, .int a2, .int a3] s (fun v s' => (v = none) ∧ Nq s s')) (i223 : ∀ (a1 : Int32) (s : yS), Par d 223 [.ref 213, .int a1] s (fun v s' => (v = none) ∧ Nq s s')) (i226 : ∀ (a1 : Int32) (s : yS), Par d 226 [.ref 213, .int a1] s (fun v s' => (v = none) ∧ Nq s s')) (i228 : ∀ (a1 : Int32) (s : yS), Par d 228 [.ref 213, .int a1] s (fun v s' => (v = none) ∧ Nq s s'))   {a1 : Int32} {a2 : Int32} {a3 : Int32} {a4 : Int32} {a5 : Int32} {a6 : Int32} {a7 : Int32}  {s : yS} (h : Nq s0 s) : ub_226_241 (Par d)  a1 a2 a3 a4 a5 a6 a7 s (fun v s' => (v = none) ∧ Nq s0 s') := by
  unfold ub_226_241
  intro _
  intro x1 _
  intro s2 e1
  have h2 := nq_sf e1 h
  refine Par.imp (nl_216) ?_
  rintro v4 s3 ⟨rfl, h3⟩
  refine ⟨rfl, ?_⟩
  have h5 := nq_tr h2 h3
  exact ⟨rfl, h5⟩
theorem nl_226_213 {d : Nat} {s0 : yS} (i217 : ∀ (a1 : Int32) (s : yS), Par d 217 [.ref 213, .int a1] s (fun v s' => (v = none) ∧ Nq s s')) (i221 : ∀ (a1 : Int32) (s : yS), Par d 221 [.ref 213, .int a1] s (fun v s' => (v = none) ∧ Nq s s')) (i222 : ∀ (a1 : Int32) (a2 : Int32) (a3 : Int32) (s : yS), Par d 222 [.ref 213, .int a1, .int a2, .int a3] s (fun v s' => (v = none) ∧ Nq s s')) (i223 : ∀ (a1 : Int32) (s : yS), Par d 223 [.ref 213, .int a1] s (fun v s' => (v = none) ∧ Nq s s')) (i226 : ∀ (a1 : Int32) (s : yS), Par d 226 [.ref 213, .int a1] s (fun v s' => (v = none) ∧ Nq s s')) (i228 : ∀ (a1 : Int32) (s : yS), Par d 228 [.ref 213, .int a1] s (fun v s' => (v = none) ∧ Nq s s'))   {a1 : Int32} {a2 : Int32} {a3 : Int32} {a4 : Int32} {a5 : Int32} {a6 : Int32} {a7 : Int32}  {s : yS} (h : Nq s0 s) : ub_226_213 (Par d)  a1 a2 a3 a4 a5 a6 a7 s (fun v s' => (v = none) ∧ Nq s0 s') := by
  unfold ub_226_213
  constructor
  · intro _
    exact nl_226_241 i217 i221 i222 i223 i226 i228 h
  · intro _
    intro _
    intro _
    intro _
    intro _
    refine Par.imp (nl_191) ?_
    rintro v2 s1 ⟨⟨x3, rfl⟩, h1⟩
    refine ⟨x3, rfl, ?_⟩
    have h3 := nq_tr h h1
    constructor
    · intro _
      exact nl_226_241 i217 i221 i222 i223 i226 i228 h3
    · intro _
      intro _
      refine Par.imp (nl_163) ?_
      rintro v5 s4 ⟨rfl, h4⟩
      refine ⟨rfl, ?_⟩
      have h6 := nq_tr h3 h4
      exact nl_226_241 i217 i221 i222 i223 i226 i228 h6
theorem nl_226_189 {d : Nat} {s0 : yS} (i217 : ∀ (a1 : Int32) (s : yS), Par d 217 [.ref 213, .int a1] s (fun v s' => (v = none) ∧ Nq s s')) (i221 : ∀ (a1 : Int32) (s : yS), Par d 221 [.ref 213, .int a1] s (fun v s' => (v = none) ∧ Nq s s')) (i222 : ∀ (a1 : Int32) (a2 : Int32) (a3 : Int32) (s : yS), Par d 222 [.ref 213, .int a1, .int a2, .int a3] s (fun v s' => (v = none) ∧ Nq s s')) (i223 : ∀ (a1 : Int32) (s : yS), Par d 223 [.ref 213, .int a1] s (fun v s' => (v = none) ∧ Nq s s')) (i226 : ∀ (a1 : Int32) (s : yS), Par d 226 [.ref 213, .int a1] s (fun v s' => (v = none) ∧ Nq s s')) (i228 : ∀ (a1 : Int32) (s : yS), Par d 228 [.ref 213, .int a1] s (fun v s' => (v = none) ∧ Nq s s')) {R189 : Int32 → Int32 → Int32 → Int32 → Int32 → Int32 → Int32 → yS → Prop} (hR189 : ∀ (b0 : Int32) (b1 : Int32) (b2 : Int32) (b3 : Int32) (b4 : Int32) (b5 : Int32) (b6 : Int32) (f : yS), Nq s0 f → R189 b0 b1 b2 b3 b4 b5 b6 f) {a1 : Int32} {a2 : Int32} {a3 : Int32} {a4 : Int32} {a5 : Int32} {a6 : Int32} {a7 : Int32}  {s : yS} (h : Nq s0 s) : ub_226_189 (Par d) R189 a1 a2 a3 a4 a5 a6 a7 s (fun v s' => (v = none) ∧ Nq s0 s') := by
  unfold ub_226_189
  constructor
  · intro _
    exact nl_226_213 i217 i221 i222 i223 i226 i228 h
  · intro _
    constructor
    · intro _
      exact nl_226_213 i217 i221 i222 i223 i226 i228 h
    · intro _
      intro _
      intro x1 _
      intro _
      intro x2 _
      intro _
      refine Par.imp (i222 _ _ _ _) ?_
      rintro v4 s3 ⟨rfl, h1⟩
      refine ⟨rfl, ?_⟩
      have h3 := nq_tr h h1
      intro _
      intro x5 _
      intro _
      exact hR189 _ _ _ _ _ _ _ _ h3
theorem nm_226_189 {d : Nat} {s0 : yS} (i217 : ∀ (a1 : Int32) (s : yS), Par d 217 [.ref 213, .int a1] s (fun v s' => (v = none) ∧ Nq s s')) (i221 : ∀ (a1 : Int32) (s : yS), Par d 221 [.ref 213, .int a1] s (fun v s' => (v = none) ∧ Nq s s')) (i222 : ∀ (a1 : Int32) (a2 : Int32) (a3 : Int32) (s : yS), Par d 222 [.ref 213, .int a1, .int a2, .int a3] s (fun v s' => (v = none) ∧ Nq s s')) (i223 : ∀ (a1 : Int32) (s : yS), Par d 223 [.ref 213, .int a1] s (fun v s' => (v = none) ∧ Nq s s')) (i226 : ∀ (a1 : Int32) (s : yS), Par d 226 [.ref 213, .int a1] s (fun v s' => (v = none) ∧ Nq s s')) (i228 : ∀ (a1 : Int32) (s : yS), Par d 228 [.ref 213, .int a1] s (fun v s' => (v = none) ∧ Nq s s'))   {a1 : Int32} {a2 : Int32} {a3 : Int32} {a4 : Int32} {a5 : Int32} {a6 : Int32} {a7 : Int32}  {s : yS} (h : Nq s0 s) : ubl_226_189 (Par d)  a1 a2 a3 a4 a5 a6 a7 s (fun v s' => (v = none) ∧ Nq s0 s') :=
  ⟨fun z0 z1 z2 z3 z4 z5 z6 f => Nq s0 f, h, fun _ _ _ _ _ _ _ _ h => nl_226_189 i217 i221 i222 i223 i226 i228 (fun _ _ _ _ _ _ _ _ q => q)  h⟩
theorem nl_226_182 {d : Nat} {s0 : yS} (i217 : ∀ (a1 : Int32) (s : yS), Par d 217 [.ref 213, .int a1] s (fun v s' => (v = none) ∧ Nq s s')) (i221 : ∀ (a1 : Int32) (s : yS), Par d 221 [.ref 213, .int a1] s (fun v s' => (v = none) ∧ Nq s s')) (i222 : ∀ (a1 : Int32) (a2 : Int32) (a3 : Int32) (s : yS), Par d 222 [.ref 213, .int a1, .int a2, .int a3] s (fun v s' => (v = none) ∧ Nq s s')) (i223 : ∀ (a1 : Int32) (s : yS), Par d 223 [.ref 213, .int a1] s (fun v s' => (v = none) ∧ Nq s s')) (i226 : ∀ (a1 : Int32) (s : yS), Par d 226 [.ref 213, .int a1] s (fun v s' => (v = none) ∧ Nq s s')) (i228 : ∀ (a1 : Int32) (s : yS), Par d 228 [.ref 213, .int a1] s (fun v s' => (v = none) ∧ Nq s s'))   {a1 : Int32} {a2 : Int32} {a3 : Int32} {a4 : Int32} {a5 : Int32} {a6 : Int32} {a7 : Int32}  {s : yS} (h : Nq s0 s) : ub_226_182 (Par d)  a1 a2 a3 a4 a5 a6 a7 s (fun v s' => (v = none) ∧ Nq s0 s') := by
  unfold ub_226_182
  intro _
  exact nm_226_189 i217 i221 i222 i223 i226 i228 h
theorem nl_226_147 {d : Nat} {s0 : yS} (i217 : ∀ (a1 : Int32) (s : yS), Par d 217 [.ref 213, .int a1] s (fun v s' => (v = none) ∧ Nq s s')) (i221 : ∀ (a1 : Int32) (s : yS), Par d 221 [.ref 213, .int a1] s (fun v s' => (v = none) ∧ Nq s s')) (i222 : ∀ (a1 : Int32) (a2 : Int32) (a3 : Int32) (s : yS), Par d 222 [.ref 213, .int a1, .int a2, .int a3] s (fun v s' => (v = none) ∧ Nq s s')) (i223 : ∀ (a1 : Int32) (s : yS), Par d 223 [.ref 213, .int a1] s (fun v s' => (v = none) ∧ Nq s s')) (i226 : ∀ (a1 : Int32) (s : yS), Par d 226 [.ref 213, .int a1] s (fun v s' => (v = none) ∧ Nq s s')) (i228 : ∀ (a1 : Int32) (s : yS), Par d 228 [.ref 213, .int a1] s (fun v s' => (v = none) ∧ Nq s s')) {R147 : Int32 → Int32 → Int32 → Int32 → Int32 → Int32 → Int32 → yS → Prop} (hR147 : ∀ (b0 : Int32) (b1 : Int32) (b2 : Int32) (b3 : Int32) (b4 : Int32) (b5 : Int32) (b6 : Int32) (f : yS), Nq s0 f → R147 b0 b1 b2 b3 b4 b5 b6 f) {a1 : Int32} {a2 : Int32} {a3 : Int32} {a4 : Int32} {a5 : Int32} {a6 : Int32} {a7 : Int32}  {s : yS} (h : Nq s0 s) : ub_226_147 (Par d) R147 a1 a2 a3 a4 a5 a6 a7 s (fun v s' => (v = none) ∧ Nq s0 s') := by
  unfold ub_226_147
  constructor
  · intro _
    exact nl_226_182 i217 i221 i222 i223 i226 i228 h
  · intro _
    constructor
    · intro _
      exact nl_226_182 i217 i221 i222 i223 i226 i228 h
    · intro _
      intro _
      intro _
      intro _
      intro x1 _
      intro _
      intro x2 _
      intro _
      intro _
      refine Par.imp (nl_212) ?_
      rintro v4 s3 ⟨rfl, h1⟩
      refine ⟨rfl, ?_⟩
      have h3 := nq_tr h h1
      intro _
      intro x5 _
      intro _
      exact hR147 _ _ _ _ _ _ _ _ h3
theorem nm_226_147 {d : Nat} {s0 : yS} (i217 : ∀ (a1 : Int32) (s : yS), Par d 217 [.ref 213, .int a1] s (fun v s' => (v = none) ∧ Nq s s')) (i221 : ∀ (a1 : Int32) (s : yS), Par d 221 [.ref 213, .int a1] s (fun v s' => (v = none) ∧ Nq s s')) (i222 : ∀ (a1 : Int32) (a2 : Int32) (a3 : Int32) (s : yS), Par d 222 [.ref 213, .int a1, .int a2, .int a3] s (fun v s' => (v = none) ∧ Nq s s')) (i223 : ∀ (a1 : Int32) (s : yS), Par d 223 [.ref 213, .int a1] s (fun v s' => (v = none) ∧ Nq s s')) (i226 : ∀ (a1 : Int32) (s : yS), Par d 226 [.ref 213, .int a1] s (fun v s' => (v = none) ∧ Nq s s')) (i228 : ∀ (a1 : Int32) (s : yS), Par d 228 [.ref 213, .int a1] s (fun v s' => (v = none) ∧ Nq s s'))   {a1 : Int32} {a2 : Int32} {a3 : Int32} {a4 : Int32} {a5 : Int32} {a6 : Int32} {a7 : Int32}  {s : yS} (h : Nq s0 s) : ubl_226_147 (Par d)  a1 a2 a3 a4 a5 a6 a7 s (fun v s' => (v = none) ∧ Nq s0 s') :=
  ⟨fun z0 z1 z2 z3 z4 z5 z6 f => Nq s0 f, h, fun _ _ _ _ _ _ _ _ h => nl_226_147 i217 i221 i222 i223 i226 i228 (fun _ _ _ _ _ _ _ _ q => q)  h⟩
theorem nl_226_119 {d : Nat} {s0 : yS} (i217 : ∀ (a1 : Int32) (s : yS), Par d 217 [.ref 213, .int a1] s (fun v s' => (v = none) ∧ Nq s s')) (i221 : ∀ (a1 : Int32) (s : yS), Par d 221 [.ref 213, .int a1] s (fun v s' => (v = none) ∧ Nq s s')) (i222 : ∀ (a1 : Int32) (a2 : Int32) (a3 : Int32) (s : yS), Par d 222 [.ref 213, .int a1, .int a2, .int a3] s (fun v s' => (v = none) ∧ Nq s s')) (i223 : ∀ (a1 : Int32) (s : yS), Par d 223 [.ref 213, .int a1] s (fun v s' => (v = none) ∧ Nq s s')) (i226 : ∀ (a1 : Int32) (s : yS), Par d 226 [.ref 213, .int a1] s (fun v s' => (v = none) ∧ Nq s s')) (i228 : ∀ (a1 : Int32) (s : yS), Par d 228 [.ref 213, .int a1] s (fun v s' => (v = none) ∧ Nq s s'))   {a1 : Int32} {a2 : Int32} {a3 : Int32} {a4 : Int32} {a5 : Int32}  {s : yS} (h : Nq s0 s) : ub_226_119 (Par d)  a1 a2 a3 a4 a5 s (fun v s' => (v = none) ∧ Nq s0 s') := by
  unfold ub_226_119
  constructor
  · intro _
    refine Par.imp (nl_188) ?_
    rintro v2 s1 ⟨⟨x3, rfl⟩, h1⟩
    refine ⟨x3, rfl, ?_⟩
    have h3 := nq_tr h h1
    refine Par.imp (nl_189) ?_
    rintro v5 s4 ⟨rfl, h4⟩
    refine ⟨rfl, ?_⟩
    have h6 := nq_tr h3 h4
    intro _
    refine Par.imp (nl_227) ?_
    rintro v7 s6 ⟨rfl, h7⟩
    refine ⟨rfl, ?_⟩
    have h9 := nq_tr h6 h7
    intro _
    exact nm_226_147 i217 i221 i222 i223 i226 i228 h9
  · intro _
    exact ⟨rfl, h⟩
theorem nl_226_105 {d : Nat} {s0 : yS} (i217 : ∀ (a1 : Int32) (s : yS), Par d 217 [.ref 213, .int a1] s (fun v s' => (v = none) ∧ Nq s s')) (i221 : ∀ (a1 : Int32) (s : yS), Par d 221 [.ref 213, .int a1] s (fun v s' => (v = none) ∧ Nq s s')) (i222 : ∀ (a1 : Int32) (a2 : Int32) (a3 : Int32) (s : yS), Par d 222 [.ref 213, .int a1, .int a2, .int a3] s (fun v s' => (v = none) ∧ Nq s s')) (i223 : ∀ (a1 : Int32) (s : yS), Par d 223 [.ref 213, .int a1] s (fun v s' => (v = none) ∧ Nq s s')) (i226 : ∀ (a1 : Int32) (s : yS), Par d 226 [.ref 213, .int a1] s (fun v s' => (v = none) ∧ Nq s s')) (i228 : ∀ (a1 : Int32) (s : yS), Par d 228 [.ref 213, .int a1] s (fun v s' => (v = none) ∧ Nq s s')) {R105 : Int32 → Int32 → Int32 → Int32 → Int32 → yS → Prop} (hR105 : ∀ (b0 : Int32) (b1 : Int32) (b2 : Int32) (b3 : Int32) (b4 : Int32) (f : yS), Nq s0 f → R105 b0 b1 b2 b3 b4 f) {a1 : Int32} {a2 : Int32} {a3 : Int32} {a4 : Int32} {a5 : Int32}  {s : yS} (h : Nq s0 s) : ub_226_105 (Par d) R105 a1 a2 a3 a4 a5 s (fun v s' => (v = none) ∧ Nq s0 s') := by
  unfold ub_226_105
  constructor
  · intro _
    exact nl_226_119 i217 i221 i222 i223 i226 i228 h
  · intro _
    constructor
    · intro _
      exact nl_226_119 i217 i221 i222 i223 i226 i228 h
    · intro _
      refine Par.imp (nl_211) ?_
      rintro v2 s1 ⟨rfl, h1⟩
      refine ⟨rfl, ?_⟩
      have h3 := nq_tr h h1
      intro _
      exact hR105 _ _ _ _ _ _ h3
theorem nm_226_105 {d : Nat} {s0 : yS} (i217 : ∀ (a1 : Int32) (s : yS), Par d 217 [.ref 213, .int a1] s (fun v s' => (v = none) ∧ Nq s s')) (i221 : ∀ (a1 : Int32) (s : yS), Par d 221 [.ref 213, .int a1] s (fun v s' => (v = none) ∧ Nq s s')) (i222 : ∀ (a1 : Int32) (a2 : Int32) (a3 : Int32) (s : yS), Par d 222 [.ref 213, .int a1, .int a2, .int a3] s (fun v s' => (v = none) ∧ Nq s s')) (i223 : ∀ (a1 : Int32) (s : yS), Par d 223 [.ref 213, .int a1] s (fun v s' => (v = none) ∧ Nq s s')) (i226 : ∀ (a1 : Int32) (s : yS), Par d 226 [.ref 213, .int a1] s (fun v s' => (v = none) ∧ Nq s s')) (i228 : ∀ (a1 : Int32) (s : yS), Par d 228 [.ref 213, .int a1] s (fun v s' => (v = none) ∧ Nq s s'))   {a1 : Int32} {a2 : Int32} {a3 : Int32} {a4 : Int32} {a5 : Int32}  {s : yS} (h : Nq s0 s) : ubl_226_105 (Par d)  a1 a2 a3 a4 a5 s (fun v s' => (v = none) ∧ Nq s0 s') :=
  ⟨fun z0 z1 z2 z3 z4 f => Nq s0 f, h, fun _ _ _ _ _ _ h => nl_226_105 i217 i221 i222 i223 i226 i228 (fun _ _ _ _ _ _ q => q)  h⟩
theorem nl_226_88 {d : Nat} {s0 : yS} (i217 : ∀ (a1 : Int32) (s : yS), Par d 217 [.ref 213, .int a1] s (fun v s' => (v = none) ∧ Nq s s')) (i221 : ∀ (a1 : Int32) (s : yS), Par d 221 [.ref 213, .int a1] s (fun v s' => (v = none) ∧ Nq s s')) (i222 : ∀ (a1 : Int32) (a2 : Int32) (a3 : Int32) (s : yS), Par d 222 [.ref 213, .int a1, .int a2, .int a3] s (fun v s' => (v = none) ∧ Nq s s')) (i223 : ∀ (a1 : Int32) (s : yS), Par d 223 [.ref 213, .int a1] s (fun v s' => (v = none) ∧ Nq s s')) (i226 : ∀ (a1 : Int32) (s : yS), Par d 226 [.ref 213, .int a1] s (fun v s' => (v = none) ∧ Nq s s')) (i228 : ∀ (a1 : Int32) (s : yS), Par d 228 [.ref 213, .int a1] s (fun v s' => (v = none) ∧ Nq s s')) {R88 : Int32 → Int32 → Int32 → Int32 → Int32 → yS → Prop} (hR88 : ∀ (b0 : Int32) (b1 : Int32) (b2 : Int32) (b3 : Int32) (b4 : Int32) (f : yS), Nq s0 f → R88 b0 b1 b2 b3 b4 f) {a1 : Int32} {a2 : Int32} {a3 : Int32} {a4 : Int32} {a5 : Int32}  {s : yS} (h : Nq s0 s) : ub_226_88 (Par d) R88 a1 a2 a3 a4 a5 s (fun v s' => (v = none) ∧ Nq s0 s') := by
  unfold ub_226_88
  constructor
  · intro _
    intro _
    exact nm_226_105 i217 i221 i222 i223 i226 i228 h
  · intro _
    refine Par.imp (nl_204) ?_
    rintro v2 s1 ⟨rfl, h1⟩
    refine ⟨rfl, ?_⟩
    have h3 := nq_tr h h1
    intro _
    exact hR88 _ _ _ _ _ _ h3
theorem nm_226_88 {d : Nat} {s0 : yS} (i217 : ∀ (a1 : Int32) (s : yS), Par d 217 [.ref 213, .int a1] s (fun v s' => (v = none) ∧ Nq s s')) (i221 : ∀ (a1 : Int32) (s : yS), Par d 221 [.ref 213, .int a1] s (fun v s' => (v = none) ∧ Nq s s')) (i222 : ∀ (a1 : Int32) (a2 : Int32) (a3 : Int32) (s : yS), Par d 222 [.ref 213, .int a1, .int a2, .int a3] s (fun v s' => (v = none) ∧ Nq s s')) (i223 : ∀ (a1 : Int32) (s : yS), Par d 223 [.ref 213, .int a1] s (fun v s' => (v = none) ∧ Nq s s')) (i226 : ∀ (a1 : Int32) (s : yS), Par d 226 [.ref 213, .int a1] s (fun v s' => (v = none) ∧ Nq s s')) (i228 : ∀ (a1 : Int32) (s : yS), Par d 228 [.ref 213, .int a1] s (fun v s' => (v = none) ∧ Nq s s'))   {a1 : Int32} {a2 : Int32} {a3 : Int32} {a4 : Int32} {a5 : Int32}  {s : yS} (h : Nq s0 s) : ubl_226_88 (Par d)  a1 a2 a3 a4 a5 s (fun v s' => (v = none) ∧ Nq s0 s') :=
  ⟨fun z0 z1 z2 z3 z4 f => Nq s0 f, h, fun _ _ _ _ _ _ h => nl_226_88 i217 i221 i222 i223 i226 i228 (fun _ _ _ _ _ _ q => q)  h⟩
theorem nl_226_83 {d : Nat} {s0 : yS} (i217 : ∀ (a1 : Int32) (s : yS), Par d 217 [.ref 213, .int a1] s (fun v s' => (v = none) ∧ Nq s s')) (i221 : ∀ (a1 : Int32) (s : yS), Par d 221 [.ref 213, .int a1] s (fun v s' => (v = none) ∧ Nq s s')) (i222 : ∀ (a1 : Int32) (a2 : Int32) (a3 : Int32) (s : yS), Par d 222 [.ref 213, .int a1, .int a2, .int a3] s (fun v s' => (v = none) ∧ Nq s s')) (i223 : ∀ (a1 : Int32) (s : yS), Par d 223 [.ref 213, .int a1] s (fun v s' => (v = none) ∧ Nq s s')) (i226 : ∀ (a1 : Int32) (s : yS), Par d 226 [.ref 213, .int a1] s (fun v s' => (v = none) ∧ Nq s s')) (i228 : ∀ (a1 : Int32) (s : yS), Par d 228 [.ref 213, .int a1] s (fun v s' => (v = none) ∧ Nq s s'))   {a1 : Int32} {a2 : Int32} {a3 : Int32} {a4 : Int32}  {s : yS} (h : Nq s0 s) : ub_226_83 (Par d)  a1 a2 a3 a4 s (fun v s' => (v = none) ∧ Nq s0 s') := by
  unfold ub_226_83
  intro _
  exact nm_226_88 i217 i221 i222 i223 i226 i228 h
theorem nl_226_76 {d : Nat} {s0 : yS} (i217 : ∀ (a1 : Int32) (s : yS), Par d 217 [.ref 213, .int a1] s (fun v s' => (v = none) ∧ Nq s s')) (i221 : ∀ (a1 : Int32) (s : yS), Par d 221 [.ref 213, .int a1] s (fun v s' => (v = none) ∧ Nq s s')) (i222 : ∀ (a1 : Int32) (a2 : Int32) (a3 : Int32) (s : yS), Par d 222 [.ref 213, .int a1, .int a2, .int a3] s (fun v s' => (v = none) ∧ Nq s s')) (i223 : ∀ (a1 : Int32) (s : yS), Par d 223 [.ref 213, .int a1] s (fun v s' => (v = none) ∧ Nq s s')) (i226 : ∀ (a1 : Int32) (s : yS), Par d 226 [.ref 213, .int a1] s (fun v s' => (v = none) ∧ Nq s s')) (i228 : ∀ (a1 : Int32) (s : yS), Par d 228 [.ref 213, .int a1] s (fun v s' => (v = none) ∧ Nq s s'))   {a1 : Int32} {a2 : Int32} {a3 : Int32} {a4 : Int32}  {s : yS} (h : Nq s0 s) : ub_226_76 (Par d)  a1 a2 a3 a4 s (fun v s' => (v = none) ∧ Nq s0 s') := by
  unfold ub_226_76
  intro _
  refine Par.imp (nl_163) ?_
  rintro v2 s1 ⟨rfl, h1⟩
  refine ⟨rfl, ?_⟩
  have h3 := nq_tr h h1
  exact nl_226_83 i217 i221 i222 i223 i226 i228 h3
theorem nl_226_33 {d : Nat} {s0 : yS} (i217 : ∀ (a1 : Int32) (s : yS), Par d 217 [.ref 213, .int a1] s (fun v s' => (v = none) ∧ Nq s s')) (i221 : ∀ (a1 : Int32) (s : yS), Par d 221 [.ref 213, .int a1] s (fun v s' => (v = none) ∧ Nq s s')) (i222 : ∀ (a1 : Int32) (a2 : Int32) (a3 : Int32) (s : yS), Par d 222 [.ref 213, .int a1, .int a2, .int a3] s (fun v s' => (v = none) ∧ Nq s s')) (i223 : ∀ (a1 : Int32) (s : yS), Par d 223 [.ref 213, .int a1] s (fun v s' => (v = none) ∧ Nq s s')) (i226 : ∀ (a1 : Int32) (s : yS), Par d 226 [.ref 213, .int a1] s (fun v s' => (v = none) ∧ Nq s s')) (i228 : ∀ (a1 : Int32) (s : yS), Par d 228 [.ref 213, .int a1] s (fun v s' => (v = none) ∧ Nq s s'))   {a1 : Int32} {a2 : Int32}  {s : yS} (h : Nq s0 s) : ub_226_33 (Par d)  a1 a2 s (fun v s' => (v = none) ∧ Nq s0 s') := by
  unfold ub_226_33
  intro _
  intro _
  refine Par.imp (nl_193) ?_
  rintro v2 s1 ⟨⟨x3, rfl⟩, h1⟩
  refine ⟨x3, rfl, ?_⟩
  have h3 := nq_tr h h1
  constructor
  · intro _
    intro _
    intro _
    constructor
    · intro _
      exact nl_226_76 i217 i221 i222 i223 i226 i228 h3
    · intro _
      intro _
      intro _
      constructor
      · intro _
        exact nl_226_83 i217 i221 i222 i223 i226 i228 h3
      · intro _
        exact nl_226_76 i217 i221 i222 i223 i226 i228 h3
  · intro _
    intro _
    refine Par.imp (nl_163) ?_
    rintro v5 s4 ⟨rfl, h4⟩
    refine ⟨rfl, ?_⟩
    have h6 := nq_tr h3 h4
    exact ⟨rfl, h6⟩
theorem nl_226_0 {d : Nat} {s0 : yS} (i217 : ∀ (a1 : Int32) (s : yS), Par d 217 [.ref 213, .int a1] s (fun v s' => (v = none) ∧ Nq s s')) (i221 : ∀ (a1 : Int32) (s : yS), Par d 221 [.ref 213, .int a1] s (fun v s' => (v = none) ∧ Nq s s')) (i222 : ∀ (a1 : Int32) (a2 : Int32) (a3 : Int32) (s : yS), Par d 222 [.ref 213, .int a1, .int a2, .int a3] s (fun v s' => (v = none) ∧ Nq s s')) (i223 : ∀ (a1 : Int32) (s : yS), Par d 223 [.ref 213, .int a1] s (fun v s' => (v = none) ∧ Nq s s')) (i226 : ∀ (a1 : Int32) (s : yS), Par d 226 [.ref 213, .int a1] s (fun v s' => (v = none) ∧ Nq s s')) (i228 : ∀ (a1 : Int32) (s : yS), Par d 228 [.ref 213, .int a1] s (fun v s' => (v = none) ∧ Nq s s'))   {a1 : Int32}  {s : yS} (h : Nq s0 s) : ub_226_0 (Par d)  a1 s (fun v s' => (v = none) ∧ Nq s0 s') := by
  unfold ub_226_0
  intro _
  refine Par.imp (i217 _ _) ?_
  rintro v2 s1 ⟨rfl, h1⟩
  refine ⟨rfl, ?_⟩
  have h3 := nq_tr h h1
  constructor
  · intro _
    refine Par.imp (nl_225) ?_
    rintro v4 s3 ⟨rfl, h4⟩
    refine ⟨rfl, ?_⟩
    have h6 := nq_tr h3 h4
    intro _
    refine Par.imp (nl_185) ?_
    rintro v6 s5 ⟨⟨x7, rfl⟩, h7⟩
    refine ⟨x7, rfl, ?_⟩
    have h9 := nq_tr h6 h7
    constructor
    · intro _
      exact nl_226_33 i217 i221 i222 i223 i226 i228 h9
    · intro _
      intro _
      refine Par.imp (nl_185) ?_
      rintro v9 s8 ⟨⟨x10, rfl⟩, h10⟩
      refine ⟨x10, rfl, ?_⟩
      have h12 := nq_tr h9 h10
      refine Par.imp (nl_194) ?_
      rintro v12 s11 ⟨rfl, h13⟩
      refine ⟨rfl, ?_⟩
      have h15 := nq_tr h12 h13
      exact nl_226_33 i217 i221 i222 i223 i226 i228 h15
  · intro _
    exact ⟨rfl, h3⟩
theorem nl_228_101 {d : Nat} {s0 : yS} (i217 : ∀ (a1 : Int32) (s : yS), Par d 217 [.ref 213, .int a1] s (fun v s' => (v = none) ∧ Nq s s')) (i221 : ∀ (a1 : Int32) (s : yS), Par d 221 [.ref 213, .int a1] s (fun v s' => (v = none) ∧ Nq s s')) (i222 : ∀ (a1 : Int32) (a2 : Int32) (a3 : Int32) (s : yS), Par d 222 [.ref 213, .int a1, .int a2, .int a3] s (fun v s' => (v = none) ∧ Nq s s')) (i223 : ∀ (a1 : Int32) (s : yS), Par d 223 [.ref 213, .int a1] s (fun v s' => (v = none) ∧ Nq s s')) (i226 : ∀ (a1 : Int32) (s : yS), Par d 226 [.ref 213, .int a1] s (fun v s' => (v = none) ∧ Nq s s')) (i228 : ∀ (a1 : Int32) (s : yS), Par d 228 [.ref 213, .int a1] s (fun v s' => (v = none) ∧ Nq s s'))   {a1 : Int32} {a2 : Int32} {a3 : Int32} {a4 : Int32}  {s : yS} (h : Nq s0 s) : ub_228_101 (Par d)  a1 a2 a3 a4 s (fun v s' => (v = none) ∧ Nq s0 s') := by
  unfold ub_228_101
  intro _
  intro _
  refine Par.imp (nl_216) ?_
  rintro v2 s1 ⟨rfl, h1⟩
  refine ⟨rfl, ?_⟩
  have h3 := nq_tr h h1
  exact ⟨rfl, h3⟩
theorem nl_228_96 {d : Nat} {s0 : yS} (i217 : ∀ (a1 : Int32) (s : yS), Par d 217 [.ref 213, .int a1] s (fun v s' => (v = none) ∧ Nq s s')) (i221 : ∀ (a1 : Int32) (s : yS), Par d 221 [.ref 213, .int a1] s (fun v s' => (v = none) ∧ Nq s s')) (i222 : ∀ (a1 : Int32) (a2 : Int32) (a3 : Int32) (s : yS), Par d 222 [.ref 213, .int a1, .int a2, .int a3] s (fun v s' => (v = none) ∧ Nq s s')) (i223 : ∀ (a1 : Int32) (s : yS), Par d 223 [.ref 213, .int a1] s (fun v s' => (v = none) ∧ Nq s s')) (i226 : ∀ (a1 : Int32) (s : yS), Par d 226 [.ref 213, .int a1] s (fun v s' => (v = none) ∧ Nq s s')) (i228 : ∀ (a1 : Int32) (s : yS), Par d 228 [.ref 213, .int a1] s (fun v s' => (v = none) ∧ Nq s s'))   {a1 : Int32} {a2 : Int32} {a3 : Int32} {a4 : Int32} {a5 : Int32} {t1 : Int32}  {s : yS} (h : Nq s0 s) : ub_228_96 (Par d)  a1 a2 a3 a4 a5 t1 s (fun v s' => (v = none) ∧ Nq s0 s') := by
  unfold ub_228_96
  intro _
  refine Par.imp (nl_163) ?_
  rintro v2 s1 ⟨rfl, h1⟩
  refine ⟨rfl, ?_⟩
  have h3 := nq_tr h h1
  exact nl_228_101 i217 i221 i222 i223 i226 i228 h3
theorem nl_228_74 {d : Nat} {s0 : yS} (i217 : ∀ (a1 : Int32) (s : yS), Par d 217 [.ref 213, .int a1] s (fun v s' => (v = none) ∧ Nq s s')) (i221 : ∀ (a1 : Int32) (s : yS), Par d 221 [.ref 213, .int a1] s (fun v s' => (v = none) ∧ Nq s s')) (i222 : ∀ (a1 : Int32) (a2 : Int32) (a3 : Int32) (s : yS), Par d 222 [.ref 213, .int a1, .int a2, .int a3] s (fun v s' => (v = none) ∧ Nq s s')) (i223 : ∀ (a1 : Int32) (s : yS), Par d 223 [.ref 213, .int a1] s (fun v s' => (v = none) ∧ Nq s s')) (i226 : ∀ (a1 : Int32) (s : yS), Par d 226 [.ref 213, .int a1] s (fun v s' => (v = none) ∧ Nq s s')) (i228 : ∀ (a1 : Int32) (s : yS), Par d 228 [.ref 213, .int a1] s (fun v s' => (v = none) ∧ Nq s s'))   {a1 : Int32} {a2 : Int32} {a3 : Int32} {a4 : Int32}  {s : yS} (h : Nq s0 s) : ub_228_74 (Par d)  a1 a2 a3 a4 s (fun v s' => (v = none) ∧ Nq s0 s') := by
  unfold ub_228_74
  intro _
  intro _
  refine Par.imp (nl_195) ?_
  rintro v2 s1 ⟨⟨x3, rfl⟩, h1⟩
  refine ⟨x3, rfl, ?_⟩
  have h3 := nq_tr h h1
  constructor
  · intro _
    exact nl_228_101 i217 i221 i222 i223 i226 i228 h3
  · intro _
    constructor
    · intro _
      exact nl_228_96 i217 i221 i222 i223 i226 i228 h3
    · intro _
      exact nl_228_96 i217 i221 i222 i223 i226 i228 h3
theorem nl_228_43 {d : Nat} {s0 : yS} (i217 : ∀ (a1 : Int32) (s : yS), Par d 217 [.ref 213, .int a1] s (fun v s' => (v = none) ∧ Nq s s')) (i221 : ∀ (a1 : Int32) (s : yS), Par d 221 [.ref 213, .int a1] s (fun v s' => (v = none) ∧ Nq s s')) (i222 : ∀ (a1 : Int32) (a2 : Int32) (a3 : Int32) (s : yS), Par d 222 [.ref 213, .int a1, .int a2, .int a3] s (fun v s' => (v = none) ∧ Nq s s')) (i223 : ∀ (a1 : Int32) (s : yS), Par d 223 [.ref 213, .int a1] s (fun v s' => (v = none) ∧ Nq s s')) (i226 : ∀ (a1 : Int32) (s : yS), Par d 226 [.ref 213, .int a1] s (fun v s' => (v = none) ∧ Nq s s')) (i228 : ∀ (a1 : Int32) (s : yS), Par d 228 [.ref 213, .int a1] s (fun v s' => (v = none) ∧ Nq s s'))   {a1 : Int32} {a2 : Int32} {a3 : Int32} {a4 : Int32}  {s : yS} (h : Nq s0 s) : ub_228_43 (Par d)  a1 a2 a3 a4 s (fun v s' => (v = none) ∧ Nq s0 s') := by
  unfold ub_228_43
  constructor
  · intro _
    intro _
    refine Par.imp (nl_220) ?_
    rintro v2 s1 ⟨⟨x3, rfl⟩, h1⟩
    refine ⟨x3, rfl, ?_⟩
    have h3 := nq_tr h h1
    constructor
    · intro _
      exact nl_228_101 i217 i221 i222 i223 i226 i228 h3
    · intro _
      intro _
      refine Par.imp (nl_185) ?_
      rintro v5 s4 ⟨⟨x6, rfl⟩, h4⟩
      refine ⟨x6, rfl, ?_⟩
      have h6 := nq_tr h3 h4
      constructor
      · intro _
        exact nl_228_74 i217 i221 i222 i223 i226 i228 h6
      · intro _
        intro _
        refine Par.imp (nl_185) ?_
        rintro v8 s7 ⟨⟨x9, rfl⟩, h7⟩
        refine ⟨x9, rfl, ?_⟩
        have h9 := nq_tr h6 h7
        refine Par.imp (nl_194) ?_
        rintro v11 s10 ⟨rfl, h10⟩
        refine ⟨rfl, ?_⟩
        have h12 := nq_tr h9 h10
        exact nl_228_74 i217 i221 i222 i223 i226 i228 h12
  · intro _
    exact ⟨rfl, h⟩
theorem nl_228_0 {d : Nat} {s0 : yS} (i217 : ∀ (a1 : Int32) (s : yS), Par d 217 [.ref 213, .int a1] s (fun v s' => (v = none) ∧ Nq s s')) (i221 : ∀ (a1 : Int32) (s : yS), Par d 221 [.ref 213, .int a1] s (fun v s' => (v = none) ∧ Nq s s')) (i222 : ∀ (a1 : Int32) (a2 : Int32) (a3 : Int32) (s : yS), Par d 222 [.ref 213, .int a1, .int a2, .int a3] s (fun v s' => (v = none) ∧ Nq s s')) (i223 : ∀ (a1 : Int32) (s : yS), Par d 223 [.ref 213, .int a1] s (fun v s' => (v = none) ∧ Nq s s')) (i226 : ∀ (a1 : Int32) (s : yS), Par d 226 [.ref 213, .int a1] s (fun v s' => (v = none) ∧ Nq s s')) (i228 : ∀ (a1 : Int32) (s : yS), Par d 228 [.ref 213, .int a1] s (fun v s' => (v = none) ∧ Nq s s'))   {a1 : Int32}  {s : yS} (h : Nq s0 s) : ub_228_0 (Par d)  a1 s (fun v s' => (v = none) ∧ Nq s0 s') := by
  unfold ub_228_0
  intro _
  refine Par.imp (i217 _ _) ?_
  rintro v2 s1 ⟨rfl, h1⟩
  refine ⟨rfl, ?_⟩
  have h3 := nq_tr h h1
  constructor
  · intro _
    refine Par.imp (nl_220) ?_
    rintro v4 s3 ⟨⟨x5, rfl⟩, h4⟩
    refine ⟨x5, rfl, ?_⟩
    have h6 := nq_tr h3 h4
    constructor
    · intro _
      intro _
      refine Par.imp (nl_204) ?_
      rintro v7 s6 ⟨rfl, h7⟩
      refine ⟨rfl, ?_⟩
      have h9 := nq_tr h6 h7
      constructor
      · intro _
        exact nl_228_43 i217 i221 i222 i223 i226 i228 h9
      · intro _
        refine Par.imp (nl_211) ?_
        rintro v9 s8 ⟨rfl, h10⟩
        refine ⟨rfl, ?_⟩
        have h12 := nq_tr h9 h10
        exact nl_228_43 i217 i221 i222 i223 i226 i228 h12
    · intro _
      intro _
      refine Par.imp (nl_163) ?_
      rintro v11 s10 ⟨rfl, h13⟩
      refine ⟨rfl, ?_⟩
      have h15 := nq_tr h6 h13
      exact ⟨rfl, h15⟩
  · intro _
    exact ⟨rfl, h3⟩
theorem nls_217_221 : ∀ d : Nat, (∀ (a1 : Int32) (s : yS), Par d 217 [.ref 213, .int a1] s (fun v s' => (v = none) ∧ Nq s s')) ∧ (∀ (a1 : Int32) (s : yS), Par d 221 [.ref 213, .int a1] s (fun v s' => (v = none) ∧ Nq s s')) ∧ (∀ (a1 : Int32) (a2 : Int32) (a3 : Int32) (s : yS), Par d 222 [.ref 213, .int a1, .int a2, .int a3] s (fun v s' => (v = none) ∧ Nq s s')) ∧ (∀ (a1 : Int32) (s : yS), Par d 223 [.ref 213, .int a1] s (fun v s' => (v = none) ∧ Nq s s')) ∧ (∀ (a1 : Int32) (s : yS), Par d 226 [.ref 213, .int a1] s (fun v s' => (v = none) ∧ Nq s s')) ∧ (∀ (a1 : Int32) (s : yS), Par d 228 [.ref 213, .int a1] s (fun v s' => (v = none) ∧ Nq s s'))
  | 0 => ⟨fun _ _ => Par_0, fun _ _ => Par_0, fun _ _ _ _ => Par_0, fun _ _ => Par_0, fun _ _ => Par_0, fun _ _ => Par_0⟩
  | d + 1 => by
    have ih := nls_217_221 d
    obtain ⟨i217, i221, i222, i223, i226, i228⟩ := ih
    exact ⟨fun _ s => pb_217 (nl_217_0 i217 i221 i222 i223 i226 i228 ⟨rfl, rfl⟩), fun _ s => pb_221 (nl_221_0 i217 i221 i222 i223 i226 i228 ⟨rfl, rfl⟩), fun _ _ _ s => pb_222 (nl_222_0 i217 i221 i222 i223 i226 i228 ⟨rfl, rfl⟩), fun _ s => pb_223 (nl_223_0 i217 i221 i222 i223 i226 i228 ⟨rfl, rfl⟩), fun _ s => pb_226 (nl_226_0 i217 i221 i222 i223 i226 i228 ⟨rfl, rfl⟩), fun _ s => pb_228 (nl_228_0 i217 i221 i222 i223 i226 i228 ⟨rfl, rfl⟩)⟩
theorem nl_217 {d : Nat} {a1 : Int32} {s : yS} : Par d 217 [.ref 213, .int a1] s (fun v s' => (v = none) ∧ Nq s s') := (nls_217_221 d).1 a1 s
theorem nl_221 {d : Nat} {a1 : Int32} {s : yS} : Par d 221 [.ref 213, .int a1] s (fun v s' => (v = none) ∧ Nq s s') := (nls_217_221 d).2.1 a1 s
theorem nl_222 {d : Nat} {a1 : Int32} {a2 : Int32} {a3 : Int32} {s : yS} : Par d 222 [.ref 213, .int a1, .int a2, .int a3] s (fun v s' => (v = none) ∧ Nq s s') := (nls_217_221 d).2.2.1 a1 a2 a3 s
theorem nl_223 {d : Nat} {a1 : Int32} {s : yS} : Par d 223 [.ref 213, .int a1] s (fun v s' => (v = none) ∧ Nq s s') := (nls_217_221 d).2.2.2.1 a1 s
theorem nl_226 {d : Nat} {a1 : Int32} {s : yS} : Par d 226 [.ref 213, .int a1] s (fun v s' => (v = none) ∧ Nq s s') := (nls_217_221 d).2.2.2.2.1 a1 s
theorem nl_228 {d : Nat} {a1 : Int32} {s : yS} : Par d 228 [.ref 213, .int a1] s (fun v s' => (v = none) ∧ Nq s s') := (nls_217_221 d).2.2.2.2.2 a1 s
theorem nl_229_52 {d : Nat} {s0 : yS}    {a1 : Int32}  {s : yS} (h : Nq s0 s) : ub_229_52 (Par d)  a1 s (fun v s' => (v = none) ∧ Nq s0 s') := by
  unfold ub_229_52
  exact ⟨rfl, h⟩
theorem nl_229_0 {d : Nat} {s0 : yS}    {a1 : Int32}  {s : yS} (h : Nq s0 s) : ub_229_0 (Par d)  a1 s (fun v s' => (v = none) ∧ Nq s0 s') := by
  unfold ub_229_0
  intro _
  refine Par.imp (nl_206) ?_
  rintro v2 s1 ⟨rfl, h1⟩
  refine ⟨rfl, ?_⟩
  have h3 := nq_tr h h1
  intro s3 e4
  have h5 := nq_sf e4 h3
  intro s4 e6
  have h7 := nq_sf e6 h5
  intro _
  refine Par.imp (nl_217) ?_
  rintro v6 s5 ⟨rfl, h8⟩
  refine ⟨rfl, ?_⟩
  have h10 := nq_tr h7 h8
  constructor
  · intro _
    exact nl_229_52 h10
  · intro _
    refine Par.imp (nl_188) ?_
    rintro v8 s7 ⟨⟨x9, rfl⟩, h11⟩
    refine ⟨x9, rfl, ?_⟩
    have h13 := nq_tr h10 h11
    intro _
    intro _
    intro _
    refine Par.imp (nl_178) ?_
    rintro v11 s10 ⟨⟨x12, rfl⟩, h14⟩
    refine ⟨x12, rfl, ?_⟩
    have h16 := nq_tr h13 h14
    refine Par.imp (nl_212) ?_
    rintro v14 s13 ⟨rfl, h17⟩
    refine ⟨rfl, ?_⟩
    have h19 := nq_tr h16 h17
    intro _
    intro x15 _
    intro s16 e20
    have h21 := nq_sf e20 h19
    exact nl_229_52 h21
theorem nl_229 {d : Nat} {a1 : Int32} {s : yS}  : Par d 229 [.ref 213, .int a1] s (fun v s' => (v = none) ∧ Nq s s') := by
  cases d with
  | zero => exact Par_0
  | succ d => exact pb_229 (nl_229_0  ⟨rfl, rfl⟩)
theorem nl_231_56 {d : Nat} {s0 : yS}    {a1 : Int32} {a2 : Int32} {a3 : Int32} {a4 : Int32}  {s : yS} (h : Nq s0 s) : ub_231_56 (Par d)  a1 a2 a3 a4 s (fun v s' => (v = none) ∧ Nq s0 s') := by
  unfold ub_231_56
  exact ⟨rfl, h⟩
theorem nl_231_0 {d : Nat} {s0 : yS}    {a1 : Int32} {a2 : Int32}  {s : yS} (h : Nq s0 s) : ub_231_0 (Par d)  a1 a2 s (fun v s' => (v = none) ∧ Nq s0 s') := by
  unfold ub_231_0
  intro _
  intro x1 _
  intro _
  intro x2 _
  intro _
  intro x3 _
  intro _
  intro x4 _
  intro _
  intro x5 _
  constructor
  · intro _
    constructor
    · intro _
      constructor
      · intro _
        intro _
        refine Par.imp (nl_213) ?_
        rintro v7 s6 ⟨rfl, h1⟩
        refine ⟨rfl, ?_⟩
        have h3 := nq_tr h h1
        exact nl_231_56 h3
      · intro _
        refine Par.imp (nl_214) ?_
        rintro v9 s8 ⟨rfl, h4⟩
        refine ⟨rfl, ?_⟩
        have h6 := nq_tr h h4
        exact nl_231_56 h6
    · intro _
      constructor
      · intro _
        refine Par.imp (nl_210) ?_
        rintro v11 s10 ⟨rfl, h7⟩
        refine ⟨rfl, ?_⟩
        have h9 := nq_tr h h7
        exact nl_231_56 h9
      · intro _
        refine Par.imp (nl_209) ?_
        rintro v13 s12 ⟨rfl, h10⟩
        refine ⟨rfl, ?_⟩
        have h12 := nq_tr h h10
        exact nl_231_56 h12
  · intro _
    constructor
    · intro _
      refine Par.imp (nl_202) ?_
      rintro v15 s14 ⟨rfl, h13⟩
      refine ⟨rfl, ?_⟩
      have h15 := nq_tr h h13
      exact nl_231_56 h15
    · intro _
      refine Par.imp (nl_201) ?_
      rintro v17 s16 ⟨rfl, h16⟩
      refine ⟨rfl, ?_⟩
      have h18 := nq_tr h h16
      exact nl_231_56 h18
theorem nl_231 {d : Nat} {a1 : Int32} {a2 : Int32} {s : yS}  : Par d 231 [.ref 213, .int a1, .int a2] s (fun v s' => (v = none) ∧ Nq s s') := by
  cases d with
  | zero => exact Par_0
  | succ d => exact pb_231 (nl_231_0  ⟨rfl, rfl⟩)
theorem nl_232_0 {d : Nat} {s0 : yS}      {s : yS} (h : Nq s0 s) : ub_232_0 (Par d)   s (fun v s' => (v = none) ∧ Nq s0 s') := by
  unfold ub_232_0
  intro s1 e1
  have h2 := nq_sf e1 h
  intro s2 e3
  have h4 := nq_sf e3 h2
  intro s3 e5
  have h6 := nq_sf e5 h4
  intro s4 e7
  have h8 := nq_sf e7 h6
  intro s5 e9
  have h10 := nq_sf e9 h8
  intro s6 e11
  have h12 := nq_sf e11 h10
  intro s7 e13
  have h14 := nq_sf e13 h12
  exact ⟨rfl, h14⟩
theorem nl_232 {d : Nat}  {s : yS}  : Par d 232 [.ref 213] s (fun v s' => (v = none) ∧ Nq s s') := by
  cases d with
  | zero => exact Par_0
  | succ d => exact pb_232 (nl_232_0  ⟨rfl, rfl⟩)
theorem nl_230_207 {d : Nat} {s0 : yS}     {P : Option Value → yS → Prop} (hP : ∀ (v : Option Value) (f : yS), Nq s0 f → P v f) {a1 : Int32}  {s : yS} (h : Nq s0 s) : ub_230_207 (Par d)  a1 s P := by
  unfold ub_230_207
  intro s1 e1
  have h2 := nq_sf e1 h
  exact hP _ _ h2
theorem nl_230_172 {d : Nat} {s0 : yS}  {R172 : Int32 → yS → Prop} (hR172 : ∀ (b0 : Int32) (f : yS), Nq s0 f → R172 b0 f)  {P : Option Value → yS → Prop} (hP : ∀ (v : Option Value) (f : yS), Nq s0 f → P v f) {a1 : Int32}  {s : yS} (h : Nq s0 s) : ub_230_172 (Par d) R172 a1 s P := by
  unfold ub_230_172
  constructor
  · intro _
    intro _
    intro s1 e1
    have h2 := nq_sa e1 h (by decide)
    intro s2 e3
    have h4 := nq_sf e3 h2
    refine Par.imp (nl_232) ?_
    rintro v4 s3 ⟨rfl, h5⟩
    refine ⟨rfl, ?_⟩
    have h7 := nq_tr h4 h5
    exact nl_230_207 hP h7
  · intro _
    intro _
    intro x5 _
    intro _
    intro x6 _
    intro _
    intro x7 _
    intro _
    intro _
    intro s8 e8
    have h9 := nq_sa e8 h (by decide)
    intro _
    intro x9 _
    exact hR172 _ _ h9
theorem nm_230_172 {d : Nat} {s0 : yS}     {P : Option Value → yS → Prop} (hP : ∀ (v : Option Value) (f : yS), Nq s0 f → P v f) {a1 : Int32}  {s : yS} (h : Nq s0 s) : ubl_230_172 (Par d)  a1 s P :=
  ⟨fun z0 f => Nq s0 f, h, fun _ _ h => nl_230_172 (fun _ _ q => q) hP  h⟩
theorem nl_230_167 {d : Nat} {s0 : yS}     {P : Option Value → yS → Prop} (hP : ∀ (v : Option Value) (f : yS), Nq s0 f → P v f) {a1 : Int32}  {s : yS} (h : Nq s0 s) : ub_230_167 (Par d)  a1 s P := by
  unfold ub_230_167
  constructor
  · intro _
    exact nl_230_207 hP h
  · intro _
    exact nm_230_172 hP h
theorem nl_230_149 {d : Nat} {s0 : yS}     {P : Option Value → yS → Prop} (hP : ∀ (v : Option Value) (f : yS), Nq s0 f → P v f) {a1 : Int32}  {s : yS} (h : Nq s0 s) : ub_230_149 (Par d)  a1 s P := by
  unfold ub_230_149
  constructor
  · intro _
    exact nl_230_167 hP h
  · intro _
    refine Par.imp (nl_206) ?_
    rintro v2 s1 ⟨rfl, h1⟩
    refine ⟨rfl, ?_⟩
    have h3 := nq_tr h h1
    intro s3 e4
    have h5 := nq_sf e4 h3
    intro _
    refine Par.imp (nl_217) ?_
    rintro v5 s4 ⟨rfl, h6⟩
    refine ⟨rfl, ?_⟩
    have h8 := nq_tr h5 h6
    exact nl_230_167 hP h8
theorem nl_230_129 {d : Nat} {s0 : yS}  {R129 : Int32 → yS → Prop} (hR129 : ∀ (b0 : Int32) (f : yS), Nq s0 f → R129 b0 f)  {P : Option Value → yS → Prop} (hP : ∀ (v : Option Value) (f : yS), Nq s0 f → P v f) {a1 : Int32}  {s : yS} (h : Nq s0 s) : ub_230_129 (Par d) R129 a1 s P := by
  unfold ub_230_129
  intro _
  constructor
  · intro _
    exact nl_230_149 hP h
  · intro _
    constructor
    · intro _
      exact nl_230_149 hP h
    · intro _
      intro _
      intro x1 _
      intro _
      intro x2 _
      refine Par.imp (nl_229) ?_
      rintro v4 s3 ⟨rfl, h1⟩
      refine ⟨rfl, ?_⟩
      have h3 := nq_tr h h1
      intro _
      intro x5 _
      exact hR129 _ _ h3
theorem nm_230_129 {d : Nat} {s0 : yS}     {P : Option Value → yS → Prop} (hP : ∀ (v : Option Value) (f : yS), Nq s0 f → P v f) {a1 : Int32}  {s : yS} (h : Nq s0 s) : ubl_230_129 (Par d)  a1 s P :=
  ⟨fun z0 f => Nq s0 f, h, fun _ _ h => nl_230_129 (fun _ _ q => q) hP  h⟩
theorem nl_230_127 {d : Nat} {s0 : yS}     {P : Option Value → yS → Prop} (hP : ∀ (v : Option Value) (f : yS), Nq s0 f → P v f) {a1 : Int32}  {s : yS} (h : Nq s0 s) : ub_230_127 (Par d)  a1 s P := by
  unfold ub_230_127
  exact nm_230_129 hP h
theorem nl_230_120 {d : Nat} {s0 : yS}  {R91 : Int32 → yS → Prop} (hR91 : ∀ (b0 : Int32) (f : yS), Nq s0 f → R91 b0 f)  {P : Option Value → yS → Prop} (hP : ∀ (v : Option Value) (f : yS), Nq s0 f → P v f) {a1 : Int32} {a2 : Int32}  {s : yS} (h : Nq s0 s) : ub_230_120 (Par d) R91 a1 a2 s P := by
  unfold ub_230_120
  intro _
  intro x1 _
  exact hR91 _ _ h
theorem nl_230_96 {d : Nat} {s0 : yS}  {R91 : Int32 → yS → Prop} {R96 : Int32 → Int32 → yS → Prop} (hR91 : ∀ (b0 : Int32) (f : yS), Nq s0 f → R91 b0 f) (hR96 : ∀ (b0 : Int32) (b1 : Int32) (f : yS), Nq s0 f → R96 b0 b1 f)  {P : Option Value → yS → Prop} (hP : ∀ (v : Option Value) (f : yS), Nq s0 f → P v f) {a1 : Int32} {a2 : Int32}  {s : yS} (h : Nq s0 s) : ub_230_96 (Par d) R91 R96 a1 a2 s P := by
  unfold ub_230_96
  intro _
  constructor
  · intro _
    exact nl_230_120 hR91 hP h
  · intro _
    constructor
    · intro _
      exact nl_230_120 hR91 hP h
    · intro _
      intro _
      intro x1 _
      intro _
      intro x2 _
      intro _
      refine Par.imp (nl_231) ?_
      rintro v4 s3 ⟨rfl, h1⟩
      refine ⟨rfl, ?_⟩
      have h3 := nq_tr h h1
      intro _
      intro x5 _
      exact hR96 _ _ _ h3
theorem nm_230_96 {d : Nat} {s0 : yS}  {R91 : Int32 → yS → Prop} (hR91 : ∀ (b0 : Int32) (f : yS), Nq s0 f → R91 b0 f)  {P : Option Value → yS → Prop} (hP : ∀ (v : Option Value) (f : yS), Nq s0 f → P v f) {a1 : Int32} {a2 : Int32}  {s : yS} (h : Nq s0 s) : ubl_230_96 (Par d) R91 a1 a2 s P :=
  ⟨fun z0 z1 f => Nq s0 f, h, fun _ _ _ h => nl_230_96 hR91 (fun _ _ _ q => q) hP  h⟩
theorem nl_230_91 {d : Nat} {s0 : yS}  {R91 : Int32 → yS → Prop} (hR91 : ∀ (b0 : Int32) (f : yS), Nq s0 f → R91 b0 f)  {P : Option Value → yS → Prop} (hP : ∀ (v : Option Value) (f : yS), Nq s0 f → P v f) {a1 : Int32}  {s : yS} (h : Nq s0 s) : ub_230_91 (Par d) R91 a1 s P := by
  unfold ub_230_91
  constructor
  · intro _
    constructor
    · intro _
      exact nl_230_127 hP h
    · intro _
      refine Par.imp (nl_215) ?_
      rintro v2 s1 ⟨rfl, h1⟩
      refine ⟨rfl, ?_⟩
      have h3 := nq_tr h h1
      exact nl_230_127 hP h3
  · intro _
    exact nm_230_96 hR91 hP h
theorem nm_230_91 {d : Nat} {s0 : yS}     {P : Option Value → yS → Prop} (hP : ∀ (v : Option Value) (f : yS), Nq s0 f → P v f) {a1 : Int32}  {s : yS} (h : Nq s0 s) : ubl_230_91 (Par d)  a1 s P :=
  ⟨fun z0 f => Nq s0 f, h, fun _ _ h => nl_230_91 (fun _ _ q => q) hP  h⟩
theorem nl_230_69 {d : Nat} {s0 : yS}  {R69 : Int32 → yS → Prop} (hR69 : ∀ (b0 : Int32) (f : yS), Nq s0 f → R69 b0 f)  {P : Option Value → yS → Prop} (hP : ∀ (v : Option Value) (f : yS), Nq s0 f → P v f) {a1 : Int32}  {s : yS} (h : Nq s0 s) : ub_230_69 (Par d) R69 a1 s P := by
  unfold ub_230_69
  constructor
  · intro _
    intro s1 e1
    have h2 := nq_sf e1 h
    intro s2 e3
    have h4 := nq_sf e3 h2
    exact nm_230_91 hP h4
  · intro _
    intro _
    intro x3 _
    intro _
    intro x4 _
    intro _
    intro s5 e5
    have h6 := nq_sa e5 h (by decide)
    intro _
    intro x6 _
    exact hR69 _ _ h6
theorem nm_230_69 {d : Nat} {s0 : yS}     {P : Option Value → yS → Prop} (hP : ∀ (v : Option Value) (f : yS), Nq s0 f → P v f) {a1 : Int32}  {s : yS} (h : Nq s0 s) : ubl_230_69 (Par d)  a1 s P :=
  ⟨fun z0 f => Nq s0 f, h, fun _ _ h => nl_230_69 (fun _ _ q => q) hP  h⟩
