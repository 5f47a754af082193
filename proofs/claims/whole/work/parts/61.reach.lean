/-! ===== canReach(): by the fewest hops ===== -/
/-- the queue: who has been seen, where, from whom, how far from the start -/
def hc_B (R : Nat → Int64) (st q : Nat) (queue : Nat → Nat) (bef : Nat → Int32) (pos lev : Nat → Nat) : Prop :=
  (∀ v, v < 34 → ¬ bef v = -1 → pos v < q ∧ queue (pos v) = v) ∧ (∀ i, i < q → queue i < 34 ∧ ¬ bef (queue i) = -1) ∧
  (∀ v, v < 34 → ¬ bef v = -1 → v = st ∨ ∃ a, a < 34 ∧ ¬ bef a = -1 ∧ bef v = nI a ∧ 0 < (R (34 * a + v)).toInt ∧ lev v = lev a + 1 ∧ pos a < pos v) ∧
  hn (fun v => decide (¬ bef v = -1)) 34 = q ∧ (∀ i j, i ≤ j → j < q → lev (queue i) ≤ lev (queue j)) ∧ ¬ bef st = -1 ∧ lev st = 0
/-- the nodes before x are done with: what they reach has been seen, no farther than one hop -/
def hc_D (R : Nat → Int64) (x : Nat) (queue : Nat → Nat) (bef : Nat → Int32) (lev : Nat → Nat) : Prop := ∀ i v, i < x → v < 34 → 0 < (R (34 * queue i + v)).toInt → ¬ bef v = -1 ∧ lev v ≤ lev (queue i) + 1
section HREACH
variable {R : Nat → Int64} {st : Nat}
theorem hc_B.q34 {q : Nat} {queue : Nat → Nat} {bef : Nat → Int32} {pos lev : Nat → Nat} (h : hc_B R st q queue bef pos lev) : q ≤ 34 := by
  have := hn_le (fun v => decide (¬ bef v = -1)) 34
  have := h.2.2.2.1
  omega
theorem hc_add {q : Nat} {queue : Nat → Nat} {bef : Nat → Int32} {pos lev : Nat → Nat} {x4 node : Nat} (h : hc_B R st q queue bef pos lev) (hx4 : x4 < q) (hle : ∀ i, i < q → lev (queue i) ≤ lev (queue x4) + 1) (hnode : node < 34) (hb : bef node = -1) (hr : 0 < (R (34 * queue x4 + node)).toInt) :
    q < 34 ∧ hc_B R st (q + 1) (va_up queue q node) (upd bef node (nI (queue x4))) (va_up pos node q) (va_up lev node (lev (queue x4) + 1)) ∧ (∀ i, i < q + 1 → va_up lev node (lev (queue x4) + 1) (va_up queue q node i) ≤ lev (queue x4) + 1) ∧ (∀ v, ¬ bef v = -1 → va_up lev node (lev (queue x4) + 1) v = lev v ∧ ¬ upd bef node (nI (queue x4)) v = -1) ∧ ¬ upd bef node (nI (queue x4)) node = -1 ∧ va_up lev node (lev (queue x4) + 1) node = lev (queue x4) + 1 := by
  obtain ⟨b1, b2, b3, b4, b5, b6⟩ := h
  have hq34 : q < 34 := by
    have := hn_lt (p := fun v => decide (¬ bef v = -1)) (q := fun _ => true) (fun _ _ => rfl) (k := node) (by simp [hb]) rfl (n := 34) hnode
    have h2 := hn_le (fun _ => true) 34
    omega
  have ha := b2 x4 hx4
  have us : upd bef node (nI (queue x4)) node = nI (queue x4) := pk_us
  have un : ∀ v, v ≠ node → upd bef node (nI (queue x4)) v = bef v := fun v hv => pk_un hv
  have seen : ∀ v, ¬ bef v = -1 → v ≠ node := fun v hv e => hv (e ▸ hb)
  have qs : va_up queue q node q = node := va_up_self _ _ _
  have qn : ∀ i, i ≠ q → va_up queue q node i = queue i := fun i hi => va_up_ne _ _ hi
  have nm : ¬ nI (queue x4) = -1 := nI_nm1 (by omega)
  have ls : va_up lev node (lev (queue x4) + 1) node = lev (queue x4) + 1 := va_up_self _ _ _
  have ln : ∀ v, v ≠ node → va_up lev node (lev (queue x4) + 1) v = lev v := fun v hv => va_up_ne _ _ hv
  have lq : ∀ i, i < q → va_up lev node (lev (queue x4) + 1) (va_up queue q node i) = lev (queue i) := fun i hi => by
    rw [qn i (by omega), ln _ (seen _ (b2 i hi).2)]
  refine ⟨hq34, ⟨?_, ?_, ?_, ?_, ?_, ?_⟩, ?_, fun v hv => ⟨ln v (seen v hv), by rw [un v (seen v hv)]; exact hv⟩, by rw [us]; exact nm, ls⟩
  · intro v hv hs1
    by_cases e : v = node
    · subst e
      rw [va_up_self, qs]
      exact ⟨by omega, rfl⟩
    · rw [va_up_ne _ _ e]
      rw [un v e] at hs1
      have k := b1 v hv hs1
      rw [qn _ (by omega)]
      exact ⟨by omega, k.2⟩
  · intro i hi
    by_cases e : i = q
    · subst e
      rw [qs, us]
      exact ⟨hnode, nm⟩
    · rw [qn i e]
      have k := b2 i (by omega)
      rw [un _ (seen _ k.2)]
      exact k
  · intro v hv hs1
    by_cases e : v = node
    · subst e
      refine Or.inr ⟨queue x4, ha.1, by rw [un _ (seen _ ha.2)]; exact ha.2, us, hr, by rw [ls, ln _ (seen _ ha.2)], ?_⟩
      rw [va_up_self, va_up_ne _ _ (seen _ ha.2)]
      exact (b1 _ ha.1 ha.2).1
    · rw [un v e] at hs1
      rcases b3 v hv hs1 with k | ⟨a', k1, k2, k3, k4, k5, k6⟩
      · exact Or.inl k
      · exact Or.inr ⟨a', k1, by rw [un a' (seen a' k2)]; exact k2, by rw [un v e]; exact k3, k4, by rw [ln v e, ln a' (seen a' k2)]; exact k5, by rw [va_up_ne _ _ e, va_up_ne _ _ (seen a' k2)]; exact k6⟩
  · have := hn_upd (p := fun v => decide (¬ bef v = -1)) (q := fun v => decide (¬ upd bef node (nI (queue x4)) v = -1)) (k := node) (by simp [hb]) (by simpa [us] using nm) (fun i hi => by simp [un i hi]) (n := 34)
    rw [if_pos hnode] at this
    omega
  · intro i j hij hj
    by_cases e : j = q
    · subst e
      rw [qs, ls]
      by_cases e2 : i = j
      · subst e2
        rw [qs, ls]
        exact Nat.le_refl _
      · rw [lq i (by omega)]
        exact hle i (by omega)
    · rw [lq i (by omega), lq j (by omega)]
      exact b5 i j hij (by omega)
  · exact ⟨by rw [un st (seen st b6.1)]; exact b6.1, by rw [ln st (seen st b6.1)]; exact b6.2⟩
  · intro i hi
    by_cases e : i = q
    · subst e
      rw [qs, ls]
      exact Nat.le_refl _
    · rw [lq i (by omega)]
      exact hle i (by omega)
/-- one node's row -/
theorem hc_65 {N27 : Nat → Nat} {x4 : Nat} {Post : Int32 × (Nat → Int32) × (Nat → Nat) → Prop} {k : Nat → Nat → (Nat → Int32) → (Nat → Nat) → Int32 × (Nat → Int32) × (Nat → Nat)}
    (hk : ∀ q x6 bef queue pos lev, hc_B R st q queue bef pos lev → x4 < q → hc_D R (x4 + 1) queue bef lev → (∀ i, i < q → lev (queue i) ≤ lev (queue x4) + 1) → Post (k q x6 bef queue)) :
    ∀ (m x6 q : Nat) (bef : Nat → Int32) (queue pos lev : Nat → Nat), 34 - x6 < m → hc_B R st q queue bef pos lev → x4 < q → queue x4 = N27 x4 → hc_D R x4 queue bef lev → (∀ i, i < q → lev (queue i) ≤ lev (queue x4) + 1) → (∀ v, v < x6 → 0 < (R (34 * queue x4 + v)).toInt → ¬ bef v = -1) → Post (f_Shortage_canReach_h65 R N27 x4 k m q x6 bef queue) := by
  intro m
  induction m with
  | zero => exact fun x6 q bef queue pos lev h => absurd h (Nat.not_lt_zero _)
  | succ m ih =>
    intro x6 q bef queue pos lev hm hB hx4 hN hD hle hrow1
    rw [f_Shortage_canReach_h65]
    unfold f_Shortage_canReach_h65B
    have hq := hB.q34
    by_cases c1 : 34 ≤ x6
    · rw [if_pos c1]
      refine hk _ _ _ _ pos lev hB hx4 (fun i v hi hv hr => ?_) hle
      by_cases e : i = x4
      · subst e
        have hs1 := hrow1 v (by omega) hr
        have p := hB.1 v hv hs1
        have q := hle (pos v) p.1
        rw [p.2] at q
        exact ⟨hs1, q⟩
      · exact hD i v (by omega) hv hr
    · rw [if_neg c1, ← hN, Nat.mul_comm (queue x4) 34]
      by_cases c2 : R (34 * queue x4 + x6) ≤ 0
      · rw [if_pos c2]
        refine ih (x6 + 1) q bef queue pos lev (by omega) hB hx4 hN hD hle (fun v hv hr => ?_)
        by_cases e : v = x6
        · subst e
          rw [h64_le, h64_0] at c2
          omega
        · exact hrow1 v (by omega) hr
      · rw [if_neg c2]
        rw [h64_le, h64_0] at c2
        by_cases c3 : bef x6 = -1
        · have ad := hc_add hB hx4 hle (show x6 < 34 by omega) c3 (by omega)
          obtain ⟨a0, a1, a2, a3, a4, a5⟩ := ad
          rw [if_pos c3, if_neg (by omega)]
          have sx := hB.2.1 x4 hx4
          have e1 : va_up queue q x6 x4 = queue x4 := va_up_ne _ _ (by omega)
          have e2 : ∀ i, i < q → va_up queue q x6 i = queue i := fun i hi => va_up_ne _ _ (by omega)
          have e3 := (a3 (queue x4) sx.2).1
          refine ih (x6 + 1) (q + 1) _ _ _ _ (by omega) a1 (by omega) (by rw [e1]; exact hN) (fun i v hi hv hr => ?_) (fun i hi => by rw [e1, e3]; exact a2 i hi) (fun v hv hr => ?_)
          · rw [e2 i (by omega)] at hr ⊢
            have k1 := hD i v hi hv hr
            have si := hB.2.1 i (by omega)
            rw [(a3 v k1.1).1, (a3 (queue i) si.2).1]
            exact ⟨(a3 v k1.1).2, k1.2⟩
          · by_cases e : v = x6
            · subst e; exact a4
            · rw [e1] at hr
              exact (a3 v (hrow1 v (by omega) hr)).2
        · rw [if_neg c3]
          refine ih (x6 + 1) q bef queue pos lev (by omega) hB hx4 hN hD hle (fun v hv hr => ?_)
          by_cases e : v = x6
          · subst e; exact c3
          · exact hrow1 v (by omega) hr
/-- what canReach finds: a set that nothing leaves; or a tree, and how far it all is -/
def hc_out (R : Nat → Int64) (st en : Nat) (r : Int32 × (Nat → Int32) × (Nat → Nat)) : Prop :=
  (r.1 = nI 0 ∧ ¬ r.2.1 st = -1 ∧ r.2.1 en = -1 ∧ ∀ a v, a < 34 → v < 34 → ¬ r.2.1 a = -1 → 0 < (R (34 * a + v)).toInt → ¬ r.2.1 v = -1) ∨
  (r.1 = nI 1 ∧ ¬ r.2.1 en = -1 ∧ ∃ q x pos lev, hc_B R st q r.2.2 r.2.1 pos lev ∧ hc_D R x r.2.2 r.2.1 lev ∧ ∀ i, x ≤ i → i < q → lev en ≤ lev (r.2.2 i) + 1)
theorem hc_27 {en : Nat} (hen : en < 34) : ∀ (m x4 q : Nat) (bef : Nat → Int32) (queue pos lev : Nat → Nat), 34 - x4 < m → x4 ≤ q → hc_B R st q queue bef pos lev → hc_D R x4 queue bef lev → (x4 < q → ∀ i, i < q → lev (queue i) ≤ lev (queue x4) + 1) → (¬ bef en = -1 → ∀ i, x4 ≤ i → i < q → lev en ≤ lev (queue i) + 1) →
    hc_out R st en (f_Shortage_canReach_h27 en R (f_Shortage_canReach_x27 en) m q x4 bef queue) := by
  intro m
  induction m with
  | zero => exact fun x4 q bef queue pos lev h => absurd h (Nat.not_lt_zero _)
  | succ m ih =>
    intro x4 q bef queue pos lev hm hxq hB hD hle hen2
    have hq := hB.q34
    have fin : (q ≤ x4 ∨ ¬ bef en = -1) → hc_out R st en (f_Shortage_canReach_x27 en q x4 bef queue) := by
      intro hc
      unfold f_Shortage_canReach_x27
      by_cases c : bef en = -1
      · rw [if_pos c]
        refine Or.inl ⟨rfl, hB.2.2.2.2.2.1, c, fun a v ha hv hs1 hr => ?_⟩
        have p := hB.1 a ha hs1
        have hq4 : q ≤ x4 := by
          rcases hc with q | q
          · exact q
          · exact absurd c q
        exact (hD (pos a) v (by omega) hv (by rw [p.2]; exact hr)).1
      · rw [if_neg c]
        exact Or.inr ⟨rfl, c, q, x4, pos, lev, hB, hD, hen2 c⟩
    rw [f_Shortage_canReach_h27]
    unfold f_Shortage_canReach_h27B
    by_cases c : q ≤ x4
    · rw [if_pos c]
      exact fin (Or.inl c)
    · rw [if_neg c, if_neg (by omega)]
      by_cases c2 : bef en = -1
      · rw [if_pos c2]
        refine hc_65 (Post := hc_out R st en) (fun q' x6' bef' queue' pos' lev' k1 k2 k3 k4 => ?_) 35 0 q bef queue pos lev (by omega) hB (by omega) rfl hD (hle (by omega)) (fun v hv => absurd hv (Nat.not_lt_zero _))
        unfold f_Shortage_canReach_x65
        have mono := k1.2.2.2.2.1
        refine ih (x4 + 1) q' bef' queue' pos' lev' (by omega) (by omega) k1 k3 (fun hlt i hi => ?_) (fun hs1 i hi hq' => ?_)
        · have a := k4 i hi
          have b := mono x4 (x4 + 1) (by omega) hlt
          omega
        · have p := k1.1 en hen hs1
          have a := k4 (pos' en) p.1
          rw [p.2] at a
          have b := mono x4 i (by omega) hq'
          omega
      · rw [if_neg c2]
        exact fin (Or.inr c2)
theorem hc_reach (R : Nat → Int64) {st en : Nat} (hst : st < 34) (hen : en < 34) (hne : en ≠ st) (NT1 : Nat → Nat) (IT0 : Nat → Int32) : hc_out R st en (f_Shortage_canReach NT1 R IT0 st en) := by
  unfold f_Shortage_canReach
  have e0 : ∀ v, v < 34 → hh_fillI 34 IT0 (-1) v = -1 := fun v hv => by unfold hh_fillI; rw [if_pos hv]
  have us : upd (hh_fillI 34 IT0 (-1)) st (nI st) st = nI st := pk_us
  have un : ∀ v, v ≠ st → upd (hh_fillI 34 IT0 (-1)) st (nI st) v = hh_fillI 34 IT0 (-1) v := fun v hv => pk_un hv
  have only : ∀ v, v < 34 → ¬ upd (hh_fillI 34 IT0 (-1)) st (nI st) v = -1 → v = st := by
    intro v hv hs1
    refine Classical.byContradiction (fun e => ?_)
    rw [un v e] at hs1
    exact hs1 (e0 v hv)
  have q0 : va_up NT1 0 st 0 = st := va_up_self _ _ _
  refine hc_27 hen 35 0 1 _ _ (fun _ => 0) (fun _ => 0) (by omega) (by omega) ⟨?_, ?_, ?_, ?_, fun _ _ _ _ => Nat.le_refl _, by rw [us]; exact nI_nm1 (by omega), rfl⟩ (fun i v hi => absurd hi (Nat.not_lt_zero _)) (fun _ i _ => by omega) (fun hs1 => absurd (only en hen hs1) hne)
  · intro v hv hs1
    have e := only v hv hs1
    subst e
    exact ⟨Nat.zero_lt_one, q0⟩
  · intro i hi
    have e : i = 0 := by omega
    subst e
    rw [q0, us]
    exact ⟨hst, nI_nm1 (by omega)⟩
  · exact fun v hv hs1 => Or.inl (only v hv hs1)
  · have h0 : ∀ k, k ≤ 34 → hn (fun v => decide (¬ hh_fillI 34 IT0 (-1) v = -1)) k = 0 := by
      intro k
      induction k with
      | zero => exact fun _ => rfl
      | succ k ih =>
        intro hk
        show hn (fun v => decide (¬ hh_fillI 34 IT0 (-1) v = -1)) k + (if decide (¬ hh_fillI 34 IT0 (-1) k = -1) = true then 1 else 0) = 0
        rw [ih (by omega), if_neg (by simp [e0 k (by omega)])]
    have := hn_upd (p := fun v => decide (¬ hh_fillI 34 IT0 (-1) v = -1)) (q := fun v => decide (¬ upd (hh_fillI 34 IT0 (-1)) st (nI st) v = -1)) (k := st) (by simp [e0 st hst]) (by simpa [us] using nI_nm1 (show st < 2 ^ 31 by omega)) (fun i hi => by simp [un i hi]) (n := 34)
    rw [if_pos hst, h0 34 (Nat.le_refl _)] at this
    omega
end HREACH
