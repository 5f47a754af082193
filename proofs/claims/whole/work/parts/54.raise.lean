/-! ===== rents and worths are raised; a path brings more ===== -/
theorem hk_32 : (32 : Int64).toInt = 32 := by decide
/-- how much a node's price is raised -/
def hk_up (D : Int) (key : Nat → Int64) (v : Nat) : Int := if (key v).toInt / 32 < D then D - (key v).toInt / 32 else 0
theorem hk_up_is {key : Nat → Int64} {v : Nat} {D : Int64} (h0 : 0 ≤ (key v).toInt) (hD : 0 ≤ D.toInt ∧ D.toInt ≤ 1000000000) : (hh_max 0 (D - key v / 32)).toInt = hk_up D.toInt key v := by
  have e1 : (key v / 32).toInt = (key v).toInt / 32 := by rw [h64_div h0 (by rw [hk_32]; omega), hk_32]
  have hb := Int64.toInt_lt (key v)
  have e2 : (D - key v / 32).toInt = D.toInt - (key v).toInt / 32 := by rw [h64_sub (by rw [e1]; omega) (by rw [e1]; omega), e1]
  unfold hh_max hk_up
  by_cases c : D - key v / 32 < 0
  · rw [if_pos c, h64_0]
    rw [h64_lt, e2, h64_0] at c
    rw [if_neg (by omega)]
  · rw [if_neg c, e2]
    rw [h64_lt, e2, h64_0] at c
    by_cases c2 : (key v).toInt / 32 < D.toInt
    · rw [if_pos c2]
    · rw [if_neg c2]; omega
theorem hk_rw43 {F : Nat} {D : Int64} {LP4 LP2' LP3 : Nat → Int64} : ∀ (m x : Nat) (L : Nat → Int64), F - x < m → x ≤ F → (∀ f, L f = if f < x then LP3 f + hh_max 0 (D - LP4 (12 + f) / 32) else LP3 f) →
    (f_Plan_raiseWorths_h43 F D LP4 (f_Plan_raiseWorths_x43 LP2') m x L).1 = LP2' ∧ ∀ f, (f_Plan_raiseWorths_h43 F D LP4 (f_Plan_raiseWorths_x43 LP2') m x L).2 f = if f < F then LP3 f + hh_max 0 (D - LP4 (12 + f) / 32) else LP3 f := by
  intro m
  induction m with
  | zero => exact fun x L h => absurd h (Nat.not_lt_zero _)
  | succ m ih =>
    intro x L hm hx h
    rw [f_Plan_raiseWorths_h43]
    unfold f_Plan_raiseWorths_h43B
    by_cases c : F ≤ x
    · rw [if_pos c]
      have e : x = F := by omega
      subst e
      exact ⟨rfl, h⟩
    · rw [if_neg c]
      refine ih (x + 1) _ (by omega) (by omega) (fun f => ?_)
      by_cases e : f = x
      · subst e
        rw [hp_updL, h f, if_neg (by omega), if_pos (by omega)]
      · rw [hp_updLn _ _ e, h f]
        by_cases c2 : f < x
        · rw [if_pos c2, if_pos (by omega)]
        · rw [if_neg c2, if_neg (by omega)]
theorem hk_rw2 {n F : Nat} {D : Int64} {LP4 LP2 LP3 : Nat → Int64} : ∀ (m x : Nat) (L : Nat → Int64), n - x < m → x ≤ n → (∀ f, L f = if f < x then LP2 f + hh_max 0 (D - LP4 f / 32) else LP2 f) →
    (∀ f, (f_Plan_raiseWorths_h2 n D LP4 (f_Plan_raiseWorths_x2 F D LP4 LP3) m x L).1 f = if f < n then LP2 f + hh_max 0 (D - LP4 f / 32) else LP2 f) ∧ (F ≤ 8 → ∀ f, (f_Plan_raiseWorths_h2 n D LP4 (f_Plan_raiseWorths_x2 F D LP4 LP3) m x L).2 f = if f < F then LP3 f + hh_max 0 (D - LP4 (12 + f) / 32) else LP3 f) := by
  intro m
  induction m with
  | zero => exact fun x L h => absurd h (Nat.not_lt_zero _)
  | succ m ih =>
    intro x L hm hx h
    rw [f_Plan_raiseWorths_h2]
    unfold f_Plan_raiseWorths_h2B
    by_cases c : n ≤ x
    · rw [if_pos c]
      have e : x = n := by omega
      subst e
      unfold f_Plan_raiseWorths_x2
      by_cases c8 : F ≤ 8
      · have k := hk_rw43 (F := F) (D := D) (LP4 := LP4) (LP2' := L) (LP3 := LP3) 9 0 LP3 (by omega) (Nat.zero_le _) (fun f => by rw [if_neg (Nat.not_lt_zero _)])
        exact ⟨fun f => by rw [k.1]; exact h f, fun _ => k.2⟩
      · refine ⟨fun f => ?_, fun q => absurd q c8⟩
        have gen : ∀ (m x : Nat) (L3 : Nat → Int64), (f_Plan_raiseWorths_h43 F D LP4 (f_Plan_raiseWorths_x43 L) m x L3).1 = L := by
          intro m
          induction m with
          | zero => exact fun _ _ => rfl
          | succ m ih =>
            intro x L3
            rw [f_Plan_raiseWorths_h43]
            unfold f_Plan_raiseWorths_h43B
            by_cases c : F ≤ x
            · rw [if_pos c]; rfl
            · rw [if_neg c]; exact ih _ _
        rw [gen]
        exact h f
    · rw [if_neg c]
      refine ih (x + 1) _ (by omega) (by omega) (fun f => ?_)
      by_cases e : f = x
      · subst e
        rw [hp_updL, h f, if_neg (by omega), if_pos (by omega)]
      · rw [hp_updLn _ _ e, h f]
        by_cases c2 : f < x
        · rw [if_pos c2, if_pos (by omega)]
        · rw [if_neg c2, if_neg (by omega)]
section HRAISE
variable {n F : Nat} {LP0 LP1 LP2 LP3 : Nat → Int64}
/-- keys as they are after a search that found j -/
def hk_end (n F : Nat) (LP0 LP1 LP2 LP3 : Nat → Int64) (st j t : Nat) (done : Nat → Int32) (key : Nat → Int64) (bef : Nat → Int32) : Prop :=
  j < n ∧ 0 < hk_X LP1 j 8 ∧ t ≤ 20 ∧ hk_J n F LP0 LP1 LP2 LP3 st t done key bef ∧ done j = 0 ∧ hk_rch key j ∧ ∀ v, v < 21 → done v = 0 → (key j).toInt ≤ (key v).toInt
theorem hk_end.dist (hn12 : n ≤ 12) (hF : F ≤ 8) (hD : hk_D n F LP0 LP1 LP2 LP3) {st j t : Nat} {done : Nat → Int32} {key : Nat → Int64} {bef : Nat → Int32} (h : hk_end n F LP0 LP1 LP2 LP3 st j t done key bef) (hst : st < n ∨ (12 ≤ st ∧ st < 12 + F)) :
    0 ≤ (key j).toInt / 32 ∧ (key j).toInt / 32 ≤ 4000000 - hk_p LP2 LP3 st ∧ (∀ v, v < 21 → 0 ≤ (key v).toInt) ∧
    (∀ a b, hk_arc n F LP0 LP1 a b → (key a).toInt / 32 < (key j).toInt / 32 → (key b).toInt / 32 ≤ (key a).toInt / 32 + hk_len LP0 LP2 LP3 a b) ∧
    (∀ v, v < 21 → (key v).toInt / 32 < (key j).toInt / 32 → hk_rch key v ∧ ¬ done v = 0) := by
  obtain ⟨h1, h2, h3, ⟨r0, r1, r2, r3, r4, r6, r7, r8⟩, h5, h6, h7⟩ := h
  have ok := r1 j (by omega) h6
  unfold hk_ok at ok
  have pj : hk_p LP2 LP3 j = 0 := by
    unfold hk_p
    rw [if_pos (by omega)]
    exact (hD.2.1 j h1).2.2.2 h2
  have knn : ∀ v, v < 21 → 0 ≤ (key v).toInt := by
    intro v hv
    by_cases c : hk_rch key v
    · have := r1 v hv c
      unfold hk_ok at this
      omega
    · have ev : key v = 9223372036854775807 := Classical.byContradiction c
      rw [ev, hk_far]
      omega
  have lt : ∀ v, v < 21 → (key v).toInt / 32 < (key j).toInt / 32 → hk_rch key v ∧ ¬ done v = 0 := by
    intro v hv hlt
    have hd : ¬ done v = 0 := by
      intro q
      have := h7 v hv q
      omega
    exact ⟨r6 v hv hd, hd⟩
  refine ⟨by omega, by omega, knn, fun a b hab hlt => ?_, lt⟩
  have al := hk_arc_len hn12 hF hD hab
  have la := lt a al.1 hlt
  have oka := r1 a al.1 la.1
  unfold hk_ok at oka
  have k := (r4 a b al.1 al.2.1 la.2 hab).2
  omega
/-- the prices after a raise -/
def hk_rd (n F : Nat) (D : Int) (key LP2 LP3 L2 L3 : Nat → Int64) : Prop := (∀ s, s < n → (L2 s).toInt = (LP2 s).toInt + hk_up D key s) ∧ ∀ f, f < F → (L3 f).toInt = (LP3 f).toInt + hk_up D key (12 + f)
theorem hk_raise (hn12 : n ≤ 12) (hF : F ≤ 8) (hD : hk_D n F LP0 LP1 LP2 LP3) {st j t : Nat} {done : Nat → Int32} {key : Nat → Int64} {bef : Nat → Int32} (h : hk_end n F LP0 LP1 LP2 LP3 st j t done key bef) (hst : st < n ∨ (12 ≤ st ∧ st < 12 + F)) :
    hk_rd n F ((key j).toInt / 32) key LP2 LP3 (f_Plan_raiseWorths n F LP2 LP3 key (key j / 32)).1 (f_Plan_raiseWorths n F LP2 LP3 key (key j / 32)).2 := by
  have d := h.dist hn12 hF hD hst
  have pst := hk_pb hn12 hD hst
  have hj : j < n := h.1
  have e1 : (key j / 32).toInt = (key j).toInt / 32 := by rw [h64_div (d.2.2.1 j (by omega)) (by rw [hk_32]; omega), hk_32]
  have k := hk_rw2 (n := n) (F := F) (D := key j / 32) (LP4 := key) (LP2 := LP2) (LP3 := LP3) 13 0 LP2 (by omega) (Nat.zero_le _) (fun f => by rw [if_neg (Nat.not_lt_zero _)])
  refine ⟨fun s hs1 => ?_, fun f hf => ?_⟩
  · have q := k.1 s
    rw [if_pos hs1] at q
    show ((f_Plan_raiseWorths_h2 n (key j / 32) key (f_Plan_raiseWorths_x2 F (key j / 32) key LP3) 13 0 LP2).1 s).toInt = _
    rw [q]
    have e2 := hk_up_is (D := key j / 32) (d.2.2.1 s (by omega)) (by omega)
    have kr := hD.2.1 s hs1
    have ub : 0 ≤ hk_up (key j / 32).toInt key s ∧ hk_up (key j / 32).toInt key s ≤ 4000000 := by
      have := d.2.2.1 s (by omega)
      unfold hk_up
      by_cases c : (key s).toInt / 32 < (key j / 32).toInt
      · rw [if_pos c]; omega
      · rw [if_neg c]; omega
    rw [h64_add (by omega) (by omega), e2, e1]
  · have q := k.2 hF f
    rw [if_pos hf] at q
    show ((f_Plan_raiseWorths_h2 n (key j / 32) key (f_Plan_raiseWorths_x2 F (key j / 32) key LP3) 13 0 LP2).2 f).toInt = _
    rw [q]
    have e2 := hk_up_is (D := key j / 32) (d.2.2.1 (12 + f) (by omega)) (by omega)
    have kr := hD.2.2 f hf
    have ub : 0 ≤ hk_up (key j / 32).toInt key (12 + f) ∧ hk_up (key j / 32).toInt key (12 + f) ≤ 4000000 := by
      have := d.2.2.1 (12 + f) (by omega)
      unfold hk_up
      by_cases c : (key (12 + f)).toInt / 32 < (key j / 32).toInt
      · rw [if_pos c]; omega
      · rw [if_neg c]; omega
    rw [h64_add (by omega) (by omega), e2, e1]
/-- a raise keeps the proof that the plan is cheapest -/
theorem hk_raised (hn12 : n ≤ 12) (hF : F ≤ 8) (hD : hk_D n F LP0 LP1 LP2 LP3) {st j t : Nat} {done : Nat → Int32} {key : Nat → Int64} {bef : Nat → Int32} (h : hk_end n F LP0 LP1 LP2 LP3 st j t done key bef) (hst : st < n ∨ (12 ≤ st ∧ st < 12 + F)) {L2 L3 : Nat → Int64} (hr : hk_rd n F ((key j).toInt / 32) key LP2 LP3 L2 L3) :
    hk_D n F LP0 LP1 L2 L3 := by
  obtain ⟨d1, d2, d3, d4, d5⟩ := h.dist hn12 hF hD hst
  have pst := hk_pb hn12 hD hst
  obtain ⟨u2, u3⟩ := hr
  have bnd : ∀ v, v < 21 → (v < n ∨ (12 ≤ v ∧ v < 12 + F)) → 0 ≤ hk_p LP2 LP3 v + hk_up ((key j).toInt / 32) key v ∧ hk_p LP2 LP3 v + hk_up ((key j).toInt / 32) key v ≤ 10000000 := by
    intro v hv hvr
    have pv := hk_pb hn12 hD hvr
    unfold hk_up
    by_cases c : (key v).toInt / 32 < (key j).toInt / 32
    · rw [if_pos c]
      have q := d5 v hv c
      have ok := h.2.2.2.1.2.1 v hv q.1
      unfold hk_ok at ok
      have := h.2.2.1
      omega
    · rw [if_neg c]; omega
  refine ⟨fun s f hs1 hf => ?_, fun s hs1 => ?_, fun f hf => ?_⟩
  · rcases hD.1 s f hs1 hf with k | ⟨k1, k2, k3, k4, k5, k6⟩
    · exact Or.inl k
    · refine Or.inr ⟨k1, k2, k3, k4, ?_, fun hp => ?_⟩
      · rw [u2 s hs1, u3 f hf]
        have arc : hk_arc n F LP0 LP1 (12 + f) s := Or.inr ⟨by omega, by omega, hs1, by rw [show 12 + f - 12 = f by omega]; exact k1⟩
        have q := d4 (12 + f) s arc
        unfold hk_len at q
        rw [if_neg (by omega), show 12 + f - 12 = f by omega] at q
        unfold hk_up
        by_cases c : (key (12 + f)).toInt / 32 < (key j).toInt / 32
        · rw [if_pos c]
          have := q c
          by_cases c2 : (key s).toInt / 32 < (key j).toInt / 32
          · rw [if_pos c2]; omega
          · rw [if_neg c2]; omega
        · rw [if_neg c]
          by_cases c2 : (key s).toInt / 32 < (key j).toInt / 32
          · rw [if_pos c2]; omega
          · rw [if_neg c2]; omega
      · rw [u2 s hs1, u3 f hf]
        have t0 := k6 hp
        have arc : hk_arc n F LP0 LP1 (12 + f) s := Or.inr ⟨by omega, by omega, hs1, by rw [show 12 + f - 12 = f by omega]; exact k1⟩
        have arc2 : hk_arc n F LP0 LP1 s (12 + f) := Or.inl ⟨hs1, by omega, by omega, by rw [show 12 + f - 12 = f by omega]; exact hp⟩
        have q := d4 (12 + f) s arc
        have q2 := d4 s (12 + f) arc2
        unfold hk_len at q q2
        rw [if_neg (by omega), show 12 + f - 12 = f by omega] at q
        rw [if_pos (by omega)] at q2
        unfold hk_up
        by_cases c : (key (12 + f)).toInt / 32 < (key j).toInt / 32
        · rw [if_pos c]
          have := q c
          have c2 : (key s).toInt / 32 < (key j).toInt / 32 := by omega
          rw [if_pos c2]
          have := q2 c2
          omega
        · rw [if_neg c]
          by_cases c2 : (key s).toInt / 32 < (key j).toInt / 32
          · have := q2 c2
            omega
          · rw [if_neg c2]; omega
  · have kr := hD.2.1 s hs1
    have b := bnd s (by omega) (Or.inl hs1)
    unfold hk_p at b
    rw [if_pos (by omega)] at b
    rw [u2 s hs1]
    refine ⟨kr.1, b.1, b.2, fun hp => ?_⟩
    have r0 := kr.2.2.2 hp
    have c : ¬ (key s).toInt / 32 < (key j).toInt / 32 := by
      intro c
      have q := d5 s (by omega) c
      have := h.2.2.2.1.2.2.2.2.2.2.1 s (by omega) q.2
      omega
    unfold hk_up
    rw [if_neg c]; omega
  · have b := bnd (12 + f) (by omega) (Or.inr ⟨by omega, by omega⟩)
    unfold hk_p at b
    rw [if_neg (by omega), show 12 + f - 12 = f by omega] at b
    rw [u3 f hf]
    exact b
/-- on the tree, up to the end, cells are tight by the raised prices -/
theorem hk_tight (hn12 : n ≤ 12) (hF : F ≤ 8) (hD : hk_D n F LP0 LP1 LP2 LP3) {st j t : Nat} {done : Nat → Int32} {key : Nat → Int64} {bef : Nat → Int32} (h : hk_end n F LP0 LP1 LP2 LP3 st j t done key bef) {L2 L3 : Nat → Int64} (hr : hk_rd n F ((key j).toInt / 32) key LP2 LP3 L2 L3)
    {s a : Nat} (hs1 : s < n) (hle : (key s).toInt ≤ (key j).toInt) (har : hk_arc n F LP0 LP1 a s) (had : ¬ done a = 0) (hk : (key s).toInt = (key a).toInt + 32 * hk_len LP0 LP2 LP3 a s + 1) :
    12 ≤ a ∧ a < 12 + F ∧ ¬ LP0 (s * 9 + (a - 12)) = -1 ∧ (L3 (a - 12)).toInt = (LP0 (s * 9 + (a - 12))).toInt + (L2 s).toInt ∧ (key s).toInt % 32 = (key a).toInt % 32 + 1 := by
  have al := hk_arc_len hn12 hF hD har
  obtain ⟨h1, h2, h3, ⟨r0, r1, r2, r3, r4, r6, r7, r8⟩, h5, h6, h7⟩ := h
  have ok := r1 a al.1 (r6 a al.1 had)
  unfold hk_ok at ok
  rcases har with q | ⟨q1, q2, q3, q4⟩
  · omega
  · refine ⟨q1, q2, q4, ?_, by omega⟩
    rw [hr.1 s hs1, hr.2 (a - 12) (by omega), show 12 + (a - 12) = a by omega]
    unfold hk_len at hk al
    rw [if_neg (by omega)] at hk al
    unfold hk_up
    by_cases c : (key a).toInt / 32 < (key j).toInt / 32
    · rw [if_pos c]
      by_cases c2 : (key s).toInt / 32 < (key j).toInt / 32
      · rw [if_pos c2]; omega
      · rw [if_neg c2]; omega
    · rw [if_neg c]
      by_cases c2 : (key s).toInt / 32 < (key j).toInt / 32
      · rw [if_pos c2]; omega
      · rw [if_neg c2]; omega
end HRAISE
