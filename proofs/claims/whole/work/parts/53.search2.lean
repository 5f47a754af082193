section HSEARCH3
variable (n F : Nat) (LP0 LP1 LP2 LP3 : Nat → Int64)
/-- between two turns of the search -/
def hk_J (st t : Nat) (done : Nat → Int32) (key : Nat → Int64) (bef : Nat → Int32) : Prop :=
  (key st).toInt = 0 ∧ (∀ v, v < 21 → hk_rch key v → hk_ok n F LP2 LP3 st t key v) ∧
  (∀ v, v < 21 → hk_rch key v → v = st ∨ ∃ a, a < 21 ∧ ¬ done a = 0 ∧ hk_arc n F LP0 LP1 a v ∧ bef v = nI a ∧ (key v).toInt = (key a).toInt + 32 * hk_len LP0 LP2 LP3 a v + 1) ∧
  (∀ a v, a < 21 → v < 21 → ¬ done a = 0 → done v = 0 → (key a).toInt ≤ (key v).toInt) ∧
  (∀ a v, a < 21 → v < 21 → ¬ done a = 0 → hk_arc n F LP0 LP1 a v → hk_rch key v ∧ (key v).toInt ≤ (key a).toInt + 32 * hk_len LP0 LP2 LP3 a v + 1) ∧
  (∀ a, a < 21 → ¬ done a = 0 → hk_rch key a) ∧ (∀ a, a < 12 → ¬ done a = 0 → hk_X LP1 a 8 ≤ 0) ∧ t ≤ hn (fun v => decide (¬ done v = 0)) 21
/-- what a search finds: nobody (then all that it reached is done); or the nearest source with something left -/
def hk_out (st : Nat) (r : Int32 × (Nat → Int64) × (Nat → Int32) × (Nat → Int32)) : Prop :=
  (r.1 = -1 ∧ (∃ t, hk_J n F LP0 LP1 LP2 LP3 st t r.2.2.1 r.2.1 r.2.2.2) ∧ ∀ v, v < 21 → hk_rch r.2.1 v → ¬ r.2.2.1 v = 0) ∨
  ∃ j t, j < n ∧ r.1 = nI j ∧ 0 < hk_X LP1 j 8 ∧ t ≤ 20 ∧ hk_J n F LP0 LP1 LP2 LP3 st t r.2.2.1 r.2.1 r.2.2.2 ∧ r.2.2.1 j = 0 ∧ hk_rch r.2.1 j ∧ ∀ v, v < 21 → r.2.2.1 v = 0 → (r.2.1 j).toInt ≤ (r.2.1 v).toInt
end HSEARCH3
section HSEARCH4
variable {n F : Nat} {LP0 LP1 LP2 LP3 : Nat → Int64}
theorem hk_J.t20 (hF : F ≤ 8) {st t : Nat} {done : Nat → Int32} {key : Nat → Int64} {bef : Nat → Int32} (h : hk_J n F LP0 LP1 LP2 LP3 st t done key bef) (hn12 : n ≤ 12) : t ≤ 20 := by
  obtain ⟨-, r1, -, -, -, r6, -, ht⟩ := h
  have e : hn (fun v => decide (¬ done v = 0)) 21 = hn (fun v => decide (¬ done v = 0)) 20 + (if decide (¬ done 20 = 0) = true then 1 else 0) := rfl
  have h20 : done 20 = 0 := by
    refine Classical.byContradiction (fun q => ?_)
    have a := r1 20 (by omega) (r6 20 (by omega) q)
    unfold hk_ok at a
    omega
  rw [if_neg (by rw [h20]; decide)] at e
  have := hn_le (fun v => decide (¬ done v = 0)) 20
  omega
/-- a node is done: its neighbours will be reached -/
theorem hk_J.mark (hn12 : n ≤ 12) (hF : F ≤ 8) {st t j : Nat} {done : Nat → Int32} {key : Nat → Int64} {bef : Nat → Int32} (h : hk_J n F LP0 LP1 LP2 LP3 st t done key bef) (hj : j < 12 + F) (hjd : done j = 0) (hjr : hk_rch key j) (hmin : ∀ v, v < 12 + F → done v = 0 → key j ≤ key v) {Q : Nat → Prop} (hQ : ∀ v, hk_arc n F LP0 LP1 j v → ¬ Q v) :
    hk_R n F LP0 LP1 LP2 LP3 st (t + 1) j Q (upd done j (nI 1)) key bef ∧ (key j).toInt % 32 + 1 ≤ ((t + 1 : Nat) : Int) ∧ t + 1 ≤ hn (fun v => decide (¬ upd done j (nI 1) v = 0)) 21 := by
  obtain ⟨r0, r1, r2, r3, r4, r6, -, ht⟩ := h
  have self : ¬ upd done j (nI 1) j = 0 := by
    rw [show upd done j (nI 1) j = nI 1 from pk_us]
    decide
  have oth : ∀ v, v ≠ j → upd done j (nI 1) v = done v := fun v hv => pk_un hv
  have mn : ∀ v, v < 21 → done v = 0 → (key j).toInt ≤ (key v).toInt := by
    intro v hv hd
    by_cases c : hk_rch key v
    · have a := r1 v hv c
      unfold hk_ok at a
      exact h64_le.mp (hmin v (by omega) hd)
    · have : key v = 9223372036854775807 := Classical.byContradiction c
      rw [this]
      exact h64_le.mp (hp_far _)
  refine ⟨⟨r0, ?_, ?_, ?_, ?_, ?_, ?_⟩, ?_, ?_⟩
  · intro v hv hr
    have a := r1 v hv hr
    unfold hk_ok at a ⊢
    exact ⟨a.1, a.2.1, by omega, a.2.2.2⟩
  · intro v hv hr
    rcases r2 v hv hr with q | ⟨a, a1, a2, a3⟩
    · exact Or.inl q
    · refine Or.inr ⟨a, a1, ?_, a3⟩
      by_cases e : a = j
      · subst e; exact self
      · rw [oth a e]; exact a2
  · intro a v ha hv hda hdv
    have hv0 : done v = 0 ∧ v ≠ j := by
      by_cases e : v = j
      · subst e; exact absurd hdv self
      · rw [oth v e] at hdv
        exact ⟨hdv, e⟩
    by_cases e : a = j
    · subst e
      exact mn v hv hv0.1
    · rw [oth a e] at hda
      exact r3 a v ha hv hda hv0.1
  · intro a v ha hv hda har hq
    have e : a ≠ j := by
      rcases hq with q | q
      · exact q
      · intro e
        subst e
        exact hQ v har q
    rw [oth a e] at hda
    exact r4 a v ha hv hda har
  · intro a ha hda
    by_cases e : a = j
    · subst e; exact Int.le_refl _
    · rw [oth a e] at hda
      exact r3 a j ha (by omega) hda hjd
  · intro a ha hda
    by_cases e : a = j
    · subst e; exact hjr
    · rw [oth a e] at hda
      exact r6 a ha hda
  · have a := r1 j (by omega) hjr
    unfold hk_ok at a
    omega
  · have := hn_lt (p := fun v => decide (¬ done v = 0)) (q := fun v => decide (¬ upd done j (nI 1) v = 0)) (fun i hi => ?_) (k := j) (by simp [hjd]) (by simpa using self) (n := 21) (by omega)
    · omega
    · by_cases e : i = j
      · subst e; simpa using self
      · simpa [oth i e] using hi
theorem hk_R.J {st t cur : Nat} {done : Nat → Int32} {key : Nat → Int64} {bef : Nat → Int32} (h : hk_R n F LP0 LP1 LP2 LP3 st t cur (fun _ => True) done key bef) (h5 : ∀ a, a < 12 → ¬ done a = 0 → hk_X LP1 a 8 ≤ 0) (h7 : t ≤ hn (fun v => decide (¬ done v = 0)) 21) : hk_J n F LP0 LP1 LP2 LP3 st t done key bef := by
  obtain ⟨r0, r1, r2, r3, r4, r5, r6⟩ := h
  exact ⟨r0, r1, r2, r3, fun a v ha hv hda har => r4 a v ha hv hda har (Or.inr trivial), r6, h5, h7⟩
theorem hk_search39 (hn12 : n ≤ 12) (hF : F ≤ 8) (hD : hk_D n F LP0 LP1 LP2 LP3) {st : Nat} (hst : st < n ∨ (12 ≤ st ∧ st < 12 + F)) : ∀ (m t : Nat) (key : Nat → Int64) (done bef : Nat → Int32), 21 - t < m → hk_J n F LP0 LP1 LP2 LP3 st t done key bef →
    hk_out n F LP0 LP1 LP2 LP3 st (f_Plan_search_h39 F n LP0 LP2 LP3 LP1 f_Plan_search_x39 m t key done bef) := by
  intro m
  induction m with
  | zero => exact fun t key done bef h _ => absurd h (Nat.not_lt_zero _)
  | succ m ih =>
    intro t key done bef hm h
    have ht := h.t20 hF hn12
    rw [f_Plan_search_h39]
    unfold f_Plan_search_h39B
    rw [if_neg (by omega), hh_bind]
    rcases hk_nearest hF done key with ⟨e, hall⟩ | ⟨j, hj, e, hjd, hjr, hmin⟩
    · rw [e, if_pos (show (-1 : Int32) < 0 by decide)]
      refine Or.inl ⟨rfl, ⟨t, h⟩, fun v hv hr hd => ?_⟩
      have a := h.2.1 v hv hr
      unfold hk_ok at a
      exact hr (hall v (by omega) hd)
    · have hok := h.2.1 j (by omega) hjr
      unfold hk_ok at hok
      rw [e, if_neg (nI_pos (show j < 2 ^ 31 by omega)), nI_clamp (show j < 2 ^ 31 by omega)]
      have self : ¬ upd done j (nI 1) j = 0 := by
        rw [show upd done j (nI 1) j = nI 1 from pk_us]
        decide
      have oth : ∀ v, v ≠ j → upd done j (nI 1) v = done v := fun v hv => pk_un hv
      by_cases c2 : 12 ≤ j
      · rw [if_pos c2, if_pos c2, hh_bind]
        have k := h.mark hn12 hF hj hjd hjr hmin (Q := fun v => v < 0) (fun v _ => Nat.not_lt_zero v)
        obtain ⟨k1, k2, k3⟩ := k
        have e12 : 12 + (j - 12) = j := by omega
        have q := hk_reachSources hn12 hF hD (st := st) (t := t + 1) (x1 := j - 12) (done := upd done j (nI 1)) (by omega) hst (by omega) (by rw [e12]; exact self) 13 0 key bef (by omega) (by rw [e12]; exact k2) (by rw [e12]; exact k1)
        rw [e12] at q
        refine ih (t + 1) _ _ _ (by omega) (q.J (fun a ha hda => ?_) k3)
        rw [oth a (by omega)] at hda
        exact h.2.2.2.2.2.2.1 a ha hda
      · rw [if_neg c2]
        by_cases c3 : LP1 (j * 9 + 8) ≤ 0
        · rw [if_pos c3, if_neg c2, hh_bind]
          have k := h.mark hn12 hF hj hjd hjr hmin (Q := fun v => v < 12 + 0) (fun v ha hv => by rcases ha with q | q <;> omega)
          obtain ⟨k1, k2, k3⟩ := k
          have q := hk_reachFills hn12 hF hD (st := st) (t := t + 1) (cur := j) (done := upd done j (nI 1)) (by omega) hst (by omega) self 9 0 key bef (by omega) k2 k1
          refine ih (t + 1) _ _ _ (by omega) (q.J (fun a ha hda => ?_) k3)
          by_cases ea : a = j
          · subst ea
            rw [h64_le, h64_0] at c3
            exact c3
          · rw [oth a ea] at hda
            exact h.2.2.2.2.2.2.1 a ha hda
        · rw [if_neg c3]
          rw [h64_le, h64_0] at c3
          refine Or.inr ⟨j, t, by omega, rfl, by show 0 < hk_X LP1 j 8; unfold hk_X; omega, ht, h, hjd, hjr, fun v hv hd => ?_⟩
          by_cases c : hk_rch key v
          · have a := h.2.1 v hv c
            unfold hk_ok at a
            exact h64_le.mp (hmin v (by omega) hd)
          · have ev : key v = 9223372036854775807 := Classical.byContradiction c
            show (key j).toInt ≤ (key v).toInt
            rw [ev]
            exact h64_le.mp (hp_far _)
theorem hk_search2 {Post : Int32 × (Nat → Int64) × (Nat → Int32) × (Nat → Int32) → Prop} {k : Nat → (Nat → Int64) → (Nat → Int32) → Int32 × (Nat → Int64) × (Nat → Int32) × (Nat → Int32)} (hk : ∀ x key done, (∀ v, v < 21 → key v = 9223372036854775807 ∧ done v = 0) → Post (k x key done)) :
    ∀ (n x2 : Nat) (key : Nat → Int64) (done : Nat → Int32), 21 - x2 < n → (∀ v, v < x2 → key v = 9223372036854775807 ∧ done v = 0) → Post (f_Plan_search_h2 k n x2 key done) := by
  intro n
  induction n with
  | zero => exact fun x2 key done h => absurd h (Nat.not_lt_zero _)
  | succ n ih =>
    intro x2 key done h hv
    rw [f_Plan_search_h2]
    unfold f_Plan_search_h2B
    by_cases c1 : 21 ≤ x2
    · rw [if_pos c1]
      exact hk _ _ _ (fun v h => hv v (by omega))
    · rw [if_neg c1]
      refine ih (x2 + 1) _ _ (by omega) (fun v h => ?_)
      by_cases e : v = x2
      · subst e
        exact ⟨hp_updL _ _ _, pk_us⟩
      · rw [hp_updLn _ _ e, show upd done x2 (nI 0) v = done v from pk_un e]
        exact hv v (by omega)
theorem hk_search (hn12 : n ≤ 12) (hF : F ≤ 8) (hD : hk_D n F LP0 LP1 LP2 LP3) {st : Nat} (hst : st < n ∨ (12 ≤ st ∧ st < 12 + F)) (LP4 : Nat → Int64) (IP0 IP1 : Nat → Int32) :
    hk_out n F LP0 LP1 LP2 LP3 st (f_Plan_search n F LP0 LP1 LP2 LP3 LP4 IP0 IP1 st) := by
  unfold f_Plan_search
  refine hk_search2 (Post := fun r => hk_out n F LP0 LP1 LP2 LP3 st r) (fun x key done h => ?_) 22 0 LP4 IP0 (by omega) (fun v h => absurd h (Nat.not_lt_zero _))
  unfold f_Plan_search_x2
  have self : vp_updL key st 0 st = 0 := hp_updL _ _ _
  have oth : ∀ v, v ≠ st → vp_updL key st 0 v = key v := fun v hv => hp_updLn _ _ hv
  have only : ∀ v, v < 21 → hk_rch (vp_updL key st 0) v → v = st := by
    intro v hv hr
    refine Classical.byContradiction (fun e => ?_)
    unfold hk_rch at hr
    rw [oth v e] at hr
    exact hr (h v hv).1
  refine hk_search39 hn12 hF hD hst 22 0 _ _ _ (by omega) ⟨by rw [self]; exact h64_0, fun v hv hr => ?_, fun v hv hr => Or.inl (only v hv hr), fun a v ha _ hd => absurd (h a ha).2 hd, fun a v ha _ hd => absurd (h a ha).2 hd, fun a ha hd => absurd (h a ha).2 hd, fun a ha hd => absurd (h a (by omega)).2 hd, Nat.zero_le _⟩
  have e := only v hv hr
  subst e
  unfold hk_ok
  rw [self, h64_0]
  exact ⟨hst, by omega, by omega, by omega, by omega⟩
end HSEARCH4
