/-! ===== how many nodes are nearer: a depth for the tree ===== -/
def hn (p : Nat → Bool) : Nat → Nat
  | 0 => 0
  | n + 1 => hn p n + (if p n = true then 1 else 0)
theorem hn_le (p : Nat → Bool) : ∀ n, hn p n ≤ n
  | 0 => Nat.le_refl 0
  | n + 1 => by
    have h := hn_le p n
    show hn p n + (if p n = true then 1 else 0) ≤ n + 1
    by_cases c : p n = true
    · rw [if_pos c]
      omega
    · rw [if_neg c]
      omega
theorem hn_mono {p q : Nat → Bool} (h : ∀ i, p i = true → q i = true) : ∀ n, hn p n ≤ hn q n
  | 0 => Nat.le_refl 0
  | n + 1 => by
    have h1 := hn_mono h n
    show hn p n + (if p n = true then 1 else 0) ≤ hn q n + (if q n = true then 1 else 0)
    by_cases c : p n = true
    · rw [if_pos c, if_pos (h n c)]
      omega
    · rw [if_neg c]
      omega
theorem hn_lt {p q : Nat → Bool} (h : ∀ i, p i = true → q i = true) {k : Nat} (hp : ¬ p k = true) (hq : q k = true) : ∀ {n : Nat}, k < n → hn p n < hn q n
  | 0, hk => absurd hk (Nat.not_lt_zero _)
  | n + 1, hk => by
    show hn p n + (if p n = true then 1 else 0) < hn q n + (if q n = true then 1 else 0)
    by_cases e : k = n
    · subst e
      have h1 := hn_mono h k
      rw [if_neg hp, if_pos hq]
      omega
    · have h1 := hn_lt h hp hq (n := n) (by omega)
      by_cases c : p n = true
      · rw [if_pos c, if_pos (h n c)]
        omega
      · rw [if_neg c]
        omega
/-- a node that has been reached, and one up the tree -/
def hm_Rs (far : Nat → Int64) (v : Nat) : Prop := v < 34 ∧ (far v).toInt < 4000000000000000
theorem hm_dep {R C : Nat → Int64} {pi : Nat → Int} {src : Nat} {far : Nat → Int64} {bef : Nat → Int32} (h : hm_Iv R C pi src far bef) :
    ∃ dep : Nat → Nat, (∀ v, dep v < 1000) ∧ ∀ v, hm_Rs far v → v = src ∨ ∃ u, hm_Rs far u ∧ bef v = nI u ∧ 0 < (R (34 * u + v)).toInt ∧ (far u).toInt + (C (34 * u + v)).toInt ≤ (far v).toInt ∧ dep u < dep v := by
  obtain ⟨-, -, t, T, -, htree⟩ := h
  refine ⟨fun v => hn (fun w => decide ((far w).toInt - pi w < (far v).toInt - pi v ∨ ((far w).toInt - pi w = (far v).toInt - pi v ∧ t w < t v))) 34, fun v => ?_, fun v hv => ?_⟩
  · exact Nat.lt_of_le_of_lt (hn_le _ 34) (by decide)
  · rcases htree v hv.1 hv.2 with e | ⟨u, hu, e, hf, hr, hle, hord⟩
    · exact Or.inl e
    · refine Or.inr ⟨u, ⟨hu, hf⟩, e, hr, hle, ?_⟩
      refine hn_lt (k := u) (fun i hi => ?_) ?_ ?_ hu
      · have hi := of_decide_eq_true hi
        exact decide_eq_true (by omega)
      · intro hi
        have hi := of_decide_eq_true hi
        omega
      · exact decide_eq_true hord
/-! ===== sending along the tree ===== -/
theorem hs_upd1 (f : Nat → Int) (x : Nat) (d : Int) : ∀ {n : Nat}, x < n → hs (fun b => if b = x then f b + d else f b) n = hs f n + d
  | 0, h => absurd h (Nat.not_lt_zero _)
  | n + 1, h => by
    show hs (fun b => if b = x then f b + d else f b) n + (if n = x then f n + d else f n) = hs f n + f n + d
    by_cases e : n = x
    · subst e
      rw [if_pos rfl, hs_congr (g := f) (fun i hi => if_neg (by omega))]
      omega
    · rw [if_neg e, hs_upd1 f x d (by omega)]
      omega
/-- all that can still go out of a node -/
def ho (R : Nat → Int64) (w : Nat) : Int := hs (fun b => (R (34 * w + b)).toInt) 34
theorem ho_upd (R : Nat → Int64) {u x : Nat} (v : Int64) (hx : x < 34) (w : Nat) : ho (vp_updL R (34 * u + x) v) w = ho R w + (if w = u then v.toInt - (R (34 * u + x)).toInt else 0) := by
  unfold ho
  by_cases e : w = u
  · subst e
    rw [if_pos rfl, ← hs_upd1 _ x (v.toInt - (R (34 * w + x)).toInt) hx]
    refine hs_congr (fun b hb => ?_)
    by_cases eb : b = x
    · subst eb
      rw [if_pos rfl, hp_updL]
      omega
    · rw [if_neg eb, hp_updLn _ _ (by omega)]
  · rw [if_neg e, Int.add_zero]
    exact hs_congr (fun b hb => by rw [hp_updLn _ _ (by omega)])
/-- the nodes of the road back, from the end -/
def hm_p (bef : Nat → Int32) (to : Nat) : Nat → Nat
  | 0 => to
  | i + 1 => (bef (hm_p bef to i)).toNatClampNeg
/-- a road: L steps from the end back to the start, each along an arc with a rest, each nearer by -/
def hm_road (R0 : Nat → Int64) (bef : Nat → Int32) (dep : Nat → Nat) (src to L : Nat) : Prop := hm_p bef to L = src ∧ to < 34 ∧ ∀ j, j < L → hm_p bef to j ≠ src ∧ hm_p bef to (j + 1) < 34 ∧ bef (hm_p bef to j) = nI (hm_p bef to (j + 1)) ∧ dep (hm_p bef to (j + 1)) < dep (hm_p bef to j) ∧ 0 < (R0 (34 * hm_p bef to (j + 1) + hm_p bef to j)).toInt
theorem hm_road_lt {R0 : Nat → Int64} {bef : Nat → Int32} {dep : Nat → Nat} {src to L : Nat} (h : hm_road R0 bef dep src to L) : ∀ j, j ≤ L → hm_p bef to j < 34
  | 0, _ => h.2.1
  | j + 1, hj => (h.2.2 j (by omega)).2.1
theorem hm_road_is {R C : Nat → Int64} {src : Nat} {far : Nat → Int64} {bef : Nat → Int32} {dep : Nat → Nat} (htree : ∀ v, hm_Rs far v → v = src ∨ ∃ u, hm_Rs far u ∧ bef v = nI u ∧ 0 < (R (34 * u + v)).toInt ∧ (far u).toInt + (C (34 * u + v)).toInt ≤ (far v).toInt ∧ dep u < dep v) (to : Nat) :
    ∀ (n i : Nat), dep (hm_p bef to i) < n → hm_Rs far (hm_p bef to i) → ∃ L, i ≤ L ∧ hm_p bef to L = src ∧ ∀ j, i ≤ j → j < L → hm_p bef to j ≠ src ∧ hm_Rs far (hm_p bef to (j + 1)) ∧ bef (hm_p bef to j) = nI (hm_p bef to (j + 1)) ∧ dep (hm_p bef to (j + 1)) < dep (hm_p bef to j) ∧ 0 < (R (34 * hm_p bef to (j + 1) + hm_p bef to j)).toInt := by
  intro n
  induction n with
  | zero => exact fun i h _ => absurd h (Nat.not_lt_zero _)
  | succ n ih =>
    intro i hd hv
    by_cases c : hm_p bef to i = src
    · exact ⟨i, Nat.le_refl i, c, fun j h1 h2 => by omega⟩
    · rcases htree _ hv with e | ⟨u, hu, e, hr, -, hdl⟩
      · exact absurd e c
      · have e1 : hm_p bef to (i + 1) = u := by
          show (bef (hm_p bef to i)).toNatClampNeg = u
          rw [e, nI_clamp (by have := hu.1; omega)]
        obtain ⟨L, h1, h2, h3⟩ := ih (i + 1) (by rw [e1]; omega) (by rw [e1]; exact hu)
        refine ⟨L, by omega, h2, fun j hj1 hj2 => ?_⟩
        by_cases ej : j = i
        · subst ej
          rw [e1]
          exact ⟨c, hu, e, hdl, hr⟩
        · exact h3 j (by omega) hj2
/-- the first round of send finds what the narrowest arc lets through -/
theorem hm_s7 {R0 : Nat → Int64} {bef : Nat → Int32} {dep : Nat → Nat} {src to L : Nat} (hr : hm_road R0 bef dep src to L) {Post : Int64 × (Nat → Int64) → Prop} {k : Int64 → Nat → Int64 × (Nat → Int64)}
    (hk : ∀ (m : Int64) (x : Nat), 0 < m.toInt → m.toInt ≤ 1000000000000 → (∀ j, j < L → m.toInt ≤ (R0 (34 * hm_p bef to (j + 1) + hm_p bef to j)).toInt) → Post (k m x)) :
    ∀ (n i : Nat) (m : Int64), L - i < n → i ≤ L → 0 < m.toInt → m.toInt ≤ 1000000000000 → (∀ j, j < i → m.toInt ≤ (R0 (34 * hm_p bef to (j + 1) + hm_p bef to j)).toInt) → Post (f_Model_send_h7 src R0 bef k n m (hm_p bef to i)) := by
  intro n
  induction n with
  | zero => exact fun i m h _ _ _ _ => absurd h (Nat.not_lt_zero _)
  | succ n ih =>
    intro i m hn hi h0 h1 hall
    rw [f_Model_send_h7]
    unfold f_Model_send_h7B
    by_cases c : hm_p bef to i = src
    · rw [if_pos c]
      have hiL : i = L := by
        rcases Nat.lt_or_ge i L with q | q
        · exact absurd c (hr.2.2 i q).1
        · omega
      subst hiL
      exact hk m _ h0 h1 hall
    · rw [if_neg c]
      have hiL : i < L := by
        rcases Nat.lt_or_ge i L with q | q
        · exact q
        · exfalso
          have : i = L := by omega
          subst this
          exact c hr.1
      have hst := (hr.2.2 i hiL).2.2.2.2
      have e1 : (bef (hm_p bef to i)).toNatClampNeg = hm_p bef to (i + 1) := rfl
      rw [e1]
      by_cases c2 : m ≤ R0 (34 * hm_p bef to (i + 1) + hm_p bef to i)
      · rw [if_pos c2]
        rw [h64_le] at c2
        refine ih (i + 1) m (by omega) hiL h0 h1 (fun j hj => ?_)
        by_cases ej : j = i
        · subst ej
          exact c2
        · exact hall j (by omega)
      · rw [if_neg c2]
        rw [h64_le] at c2
        refine ih (i + 1) _ (by omega) hiL hst (by omega) (fun j hj => ?_)
        by_cases ej : j = i
        · subst ej
          exact Int.le_refl _
        · have := hall j (by omega)
          omega
def hm_J62 (R0 : Nat → Int64) (bef : Nat → Int32) (dep : Nat → Nat) (to i : Nat) (m : Int) (Rc : Nat → Int64) : Prop :=
  (∀ w, w < 34 → ho Rc w = ho R0 w + (if w = to then m else 0) - (if w = hm_p bef to i then m else 0)) ∧
  (∀ a b, a < 34 → b < 34 → (Rc (34 * a + b)).toInt + (Rc (34 * b + a)).toInt = (R0 (34 * a + b)).toInt + (R0 (34 * b + a)).toInt) ∧
  (∀ a b, a < 34 → b < 34 → 0 ≤ (Rc (34 * a + b)).toInt) ∧
  (∀ a b, a < 34 → b < 34 → 0 < (Rc (34 * a + b)).toInt → 0 < (R0 (34 * a + b)).toInt ∨ ∃ j, j < i ∧ a = hm_p bef to j ∧ b = hm_p bef to (j + 1)) ∧
  (∀ a b, a < 34 → b < 34 → dep a ≤ dep (hm_p bef to i) → dep b ≤ dep (hm_p bef to i) → Rc (34 * a + b) = R0 (34 * a + b))
/-- rests are no debts, and far from overflow -/
def hm_rb (R : Nat → Int64) : Prop := ∀ a b, a < 34 → b < 34 → 0 ≤ (R (34 * a + b)).toInt ∧ (R (34 * a + b)).toInt + (R (34 * b + a)).toInt ≤ 1000000000000000
theorem hm_push {R0 : Nat → Int64} {bef : Nat → Int32} {dep : Nat → Nat} {src to L : Nat} (hr : hm_road R0 bef dep src to L) (hb : hm_rb R0) {m : Int64} (h0 : 0 < m.toInt) (h1 : m.toInt ≤ 1000000000000) (hall : ∀ j, j < L → m.toInt ≤ (R0 (34 * hm_p bef to (j + 1) + hm_p bef to j)).toInt) {i : Nat} (hi : i < L) {Rc : Nat → Int64} (hJ : hm_J62 R0 bef dep to i m.toInt Rc) :
    hm_J62 R0 bef dep to (i + 1) m.toInt (vp_updL (vp_updL Rc (34 * hm_p bef to (i + 1) + hm_p bef to i) (Rc (34 * hm_p bef to (i + 1) + hm_p bef to i) - m)) (34 * hm_p bef to i + hm_p bef to (i + 1)) ((vp_updL Rc (34 * hm_p bef to (i + 1) + hm_p bef to i) (Rc (34 * hm_p bef to (i + 1) + hm_p bef to i) - m)) (34 * hm_p bef to i + hm_p bef to (i + 1)) + m)) := by
  obtain ⟨j1, j2, j3, j4, j5⟩ := hJ
  have hxl := hm_road_lt hr i (by omega)
  have hul := hm_road_lt hr (i + 1) (by omega)
  obtain ⟨-, -, -, hdl, -⟩ := hr.2.2 i hi
  have hal := hall i hi
  generalize hxe : hm_p bef to i = x at *
  generalize hue : hm_p bef to (i + 1) = u at *
  have hux : u ≠ x := by
    intro e
    subst e
    omega
  have hix : 34 * x + u ≠ 34 * u + x := by omega
  have hv1 : Rc (34 * u + x) = R0 (34 * u + x) := j5 u x hul hxl (by omega) (Nat.le_refl _)
  have hb1 := hb u x hul hxl
  have hpair := j2 u x hul hxl
  have hnn := j3 x u hxl hul
  have hs1 : (Rc (34 * u + x) - m).toInt = (Rc (34 * u + x)).toInt - m.toInt := by
    rw [hv1] at *
    exact h64_sub (by omega) (by omega)
  have hs2 : (Rc (34 * x + u) + m).toInt = (Rc (34 * x + u)).toInt + m.toInt := by
    rw [hv1] at hpair
    exact h64_add (by omega) (by omega)
  rw [hp_updLn _ _ hix]
  -- what stands where
  have hA : vp_updL (vp_updL Rc (34 * u + x) (Rc (34 * u + x) - m)) (34 * x + u) (Rc (34 * x + u) + m) (34 * x + u) = Rc (34 * x + u) + m := hp_updL _ _ _
  have hB : vp_updL (vp_updL Rc (34 * u + x) (Rc (34 * u + x) - m)) (34 * x + u) (Rc (34 * x + u) + m) (34 * u + x) = Rc (34 * u + x) - m := by
    rw [hp_updLn _ _ (Ne.symm hix), hp_updL]
  have hC : ∀ a b, a < 34 → b < 34 → ¬ (a = x ∧ b = u) → ¬ (a = u ∧ b = x) → vp_updL (vp_updL Rc (34 * u + x) (Rc (34 * u + x) - m)) (34 * x + u) (Rc (34 * x + u) + m) (34 * a + b) = Rc (34 * a + b) := by
    intro a b ha hb p q
    rw [hp_updLn _ _ (by omega), hp_updLn _ _ (by omega)]
  refine ⟨?_, ?_, ?_, ?_, ?_⟩
  · intro w hw
    rw [ho_upd _ _ hul, ho_upd _ _ hxl, j1 w hw, hp_updLn _ _ hix, hs1, hs2]
    have hsim : (if w = u then (Rc (34 * u + x)).toInt - m.toInt - (Rc (34 * u + x)).toInt else 0) = - (if w = u then m.toInt else 0) := by
      by_cases e : w = u
      · rw [if_pos e, if_pos e]; omega
      · rw [if_neg e, if_neg e]; omega
    have hsim2 : (if w = x then (Rc (34 * x + u)).toInt + m.toInt - (Rc (34 * x + u)).toInt else 0) = (if w = x then m.toInt else 0) := by
      by_cases e : w = x
      · rw [if_pos e, if_pos e]; omega
      · rw [if_neg e, if_neg e]
    rw [hsim, hsim2, hue]
    omega
  · intro a b ha hb'
    by_cases c1 : a = x ∧ b = u
    · obtain ⟨rfl, rfl⟩ := c1
      rw [hA, hB, hs1, hs2]
      have := j2 a b ha hb'
      omega
    · by_cases c2 : a = u ∧ b = x
      · obtain ⟨rfl, rfl⟩ := c2
        rw [hA, hB, hs1, hs2]
        have := j2 a b ha hb'
        omega
      · rw [hC a b ha hb' c1 c2, hC b a hb' ha (by omega) (by omega)]
        exact j2 a b ha hb'
  · intro a b ha hb'
    by_cases c1 : a = x ∧ b = u
    · obtain ⟨rfl, rfl⟩ := c1
      rw [hA, hs2]
      omega
    · by_cases c2 : a = u ∧ b = x
      · obtain ⟨rfl, rfl⟩ := c2
        rw [hB, hs1, hv1]
        omega
      · rw [hC a b ha hb' c1 c2]
        exact j3 a b ha hb'
  · intro a b ha hb' hpos
    by_cases c1 : a = x ∧ b = u
    · exact Or.inr ⟨i, by omega, by rw [hxe]; exact c1.1, by rw [hue]; exact c1.2⟩
    · by_cases c2 : a = u ∧ b = x
      · obtain ⟨rfl, rfl⟩ := c2
        exact Or.inl (by omega)
      · rw [hC a b ha hb' c1 c2] at hpos
        rcases j4 a b ha hb' hpos with q | ⟨j, hj, q⟩
        · exact Or.inl q
        · exact Or.inr ⟨j, by omega, q⟩
  · intro a b ha hb' hda hdb
    rw [hue] at hda hdb
    rw [hC a b ha hb' (by intro q; rw [q.1] at hda; omega) (by intro q; rw [q.2] at hdb; omega)]
    exact j5 a b ha hb' (by omega) (by omega)
theorem hm_s62 {R0 : Nat → Int64} {bef : Nat → Int32} {dep : Nat → Nat} {src to L : Nat} (hr : hm_road R0 bef dep src to L) (hb : hm_rb R0) {m : Int64} (h0 : 0 < m.toInt) (h1 : m.toInt ≤ 1000000000000) (hall : ∀ j, j < L → m.toInt ≤ (R0 (34 * hm_p bef to (j + 1) + hm_p bef to j)).toInt) {Post : Int64 × (Nat → Int64) → Prop} {k : Nat → (Nat → Int64) → Int64 × (Nat → Int64)}
    (hk : ∀ (x : Nat) (Rc : Nat → Int64), hm_J62 R0 bef dep to L m.toInt Rc → Post (k x Rc)) :
    ∀ (n i : Nat) (Rc : Nat → Int64), L - i < n → i ≤ L → hm_J62 R0 bef dep to i m.toInt Rc → Post (f_Model_send_h62 src bef m k n (hm_p bef to i) Rc) := by
  intro n
  induction n with
  | zero => exact fun i Rc h _ _ => absurd h (Nat.not_lt_zero _)
  | succ n ih =>
    intro i Rc hn hi hJ
    rw [f_Model_send_h62]
    unfold f_Model_send_h62B
    by_cases c : hm_p bef to i = src
    · rw [if_pos c]
      have hiL : i = L := by
        rcases Nat.lt_or_ge i L with q | q
        · exact absurd c (hr.2.2 i q).1
        · omega
      subst hiL
      exact hk _ _ hJ
    · rw [if_neg c]
      have hiL : i < L := by
        rcases Nat.lt_or_ge i L with q | q
        · exact q
        · exfalso
          have : i = L := by omega
          subst this
          exact c hr.1
      exact ih (i + 1) _ (by omega) hiL (hm_push hr hb h0 h1 hall hiL hJ)
/-- what send does: its answer goes from the start to the end, along arcs of the tree -/
theorem hm_send {R0 : Nat → Int64} {bef : Nat → Int32} {dep : Nat → Nat} {src to L : Nat} (hr : hm_road R0 bef dep src to L) (hb : hm_rb R0) (hL : L < 1000) : 0 < (f_Model_send R0 bef src to).1.toInt ∧ (f_Model_send R0 bef src to).1.toInt ≤ 1000000000000 ∧ hm_J62 R0 bef dep to L (f_Model_send R0 bef src to).1.toInt (f_Model_send R0 bef src to).2 := by
  unfold f_Model_send
  refine hm_s7 (Post := fun r => 0 < r.1.toInt ∧ r.1.toInt ≤ 1000000000000 ∧ hm_J62 R0 bef dep to L r.1.toInt r.2) hr (fun m x h0 h1 hall => ?_) 1000 0 1000000000000 (by omega) (Nat.zero_le _) (by decide) (by decide) (fun j h => absurd h (Nat.not_lt_zero _))
  unfold f_Model_send_x7
  refine hm_s62 (Post := fun r => 0 < r.1.toInt ∧ r.1.toInt ≤ 1000000000000 ∧ hm_J62 R0 bef dep to L r.1.toInt r.2) hr hb h0 h1 hall (fun x Rc hJ => ?_) 1000 0 R0 (by omega) (Nat.zero_le _) ?_
  · exact ⟨h0, h1, hJ⟩
  · refine ⟨fun w hw => ?_, fun a b _ _ => rfl, fun a b ha hb' => (hb a b ha hb').1, fun a b _ _ h => Or.inl h, fun a b _ _ _ _ => rfl⟩
    show ho R0 w = ho R0 w + (if w = to then m.toInt else 0) - (if w = to then m.toInt else 0)
    omega
