/-! ===== the class's search: nearest first ===== -/
section HSEARCH
variable (n F : Nat) (LP0 LP1 LP2 LP3 : Nat → Int64)
def hk_X (LP1 : Nat → Int64) (s f : Nat) : Int := (LP1 (s * 9 + f)).toInt
/-- what a plan's numbers keep: the used cells cost nothing by rents and worths, no cell less than nothing -/
def hk_D : Prop :=
  (∀ s f, s < n → f < F → (LP0 (s * 9 + f) = -1 ∧ hk_X LP1 s f = 0) ∨ (¬ LP0 (s * 9 + f) = -1 ∧ 0 ≤ (LP0 (s * 9 + f)).toInt ∧ (LP0 (s * 9 + f)).toInt ≤ 200000 ∧ 0 ≤ hk_X LP1 s f ∧ (LP3 f).toInt ≤ (LP0 (s * 9 + f)).toInt + (LP2 s).toInt ∧ (0 < hk_X LP1 s f → (LP3 f).toInt = (LP0 (s * 9 + f)).toInt + (LP2 s).toInt))) ∧
  (∀ s, s < n → 0 ≤ hk_X LP1 s 8 ∧ 0 ≤ (LP2 s).toInt ∧ (LP2 s).toInt ≤ 10000000 ∧ (0 < hk_X LP1 s 8 → (LP2 s).toInt = 0)) ∧
  ∀ f, f < F → 0 ≤ (LP3 f).toInt ∧ (LP3 f).toInt ≤ 10000000
def hk_p (v : Nat) : Int := if v < 12 then (LP2 v).toInt else (LP3 (v - 12)).toInt
def hk_len (a b : Nat) : Int := if a < 12 then 0 else (LP0 (b * 9 + (a - 12))).toInt + (LP2 b).toInt - (LP3 (a - 12)).toInt
def hk_arc (a b : Nat) : Prop := (a < n ∧ 12 ≤ b ∧ b < 12 + F ∧ 0 < hk_X LP1 a (b - 12)) ∨ (12 ≤ a ∧ a < 12 + F ∧ b < n ∧ ¬ LP0 (b * 9 + (a - 12)) = -1)
def hk_rch (key : Nat → Int64) (v : Nat) : Prop := key v ≠ 9223372036854775807
def hk_ok (st t : Nat) (key : Nat → Int64) (v : Nat) : Prop := (v < n ∨ (12 ≤ v ∧ v < 12 + F)) ∧ 0 ≤ (key v).toInt ∧ (key v).toInt % 32 ≤ t ∧ -200000 * ((key v).toInt % 32) ≤ (key v).toInt / 32 - hk_p LP2 LP3 v + hk_p LP2 LP3 st ∧ (key v).toInt / 32 - hk_p LP2 LP3 v + hk_p LP2 LP3 st ≤ 200000 * ((key v).toInt % 32)
/-- while a node's neighbours are reached (those with Q are) -/
def hk_R (st t cur : Nat) (Q : Nat → Prop) (done : Nat → Int32) (key : Nat → Int64) (bef : Nat → Int32) : Prop :=
  (key st).toInt = 0 ∧ (∀ v, v < 21 → hk_rch key v → hk_ok n F LP2 LP3 st t key v) ∧
  (∀ v, v < 21 → hk_rch key v → v = st ∨ ∃ a, a < 21 ∧ ¬ done a = 0 ∧ hk_arc n F LP0 LP1 a v ∧ bef v = nI a ∧ (key v).toInt = (key a).toInt + 32 * hk_len LP0 LP2 LP3 a v + 1) ∧
  (∀ a v, a < 21 → v < 21 → ¬ done a = 0 → done v = 0 → (key a).toInt ≤ (key v).toInt) ∧
  (∀ a v, a < 21 → v < 21 → ¬ done a = 0 → hk_arc n F LP0 LP1 a v → (a ≠ cur ∨ Q v) → hk_rch key v ∧ (key v).toInt ≤ (key a).toInt + 32 * hk_len LP0 LP2 LP3 a v + 1) ∧
  (∀ a, a < 21 → ¬ done a = 0 → (key a).toInt ≤ (key cur).toInt) ∧ (∀ a, a < 21 → ¬ done a = 0 → hk_rch key a)
end HSEARCH
theorem hk_far : (9223372036854775807 : Int64).toInt = 9223372036854775807 := by decide
theorem hk_m1 : (-1 : Int64).toInt = -1 := by decide
section HSEARCH2
variable {n F : Nat} {LP0 LP1 LP2 LP3 : Nat → Int64}
theorem hk_pb (hn : n ≤ 12) (hD : hk_D n F LP0 LP1 LP2 LP3) {v : Nat} (hv : v < n ∨ (12 ≤ v ∧ v < 12 + F)) : 0 ≤ hk_p LP2 LP3 v ∧ hk_p LP2 LP3 v ≤ 10000000 := by
  unfold hk_p
  rcases hv with h | h
  · rw [if_pos (by omega)]
    have := hD.2.1 v h
    omega
  · rw [if_neg (by omega)]
    exact hD.2.2 (v - 12) (by omega)
/-- an arc's length, and how far it is from the difference of the prices -/
theorem hk_arc_len (hn : n ≤ 12) (hF : F ≤ 8) (hD : hk_D n F LP0 LP1 LP2 LP3) {a b : Nat} (h : hk_arc n F LP0 LP1 a b) :
    a < 21 ∧ b < 21 ∧ (a < n ∨ (12 ≤ a ∧ a < 12 + F)) ∧ (b < n ∨ (12 ≤ b ∧ b < 12 + F)) ∧ 0 ≤ hk_len LP0 LP2 LP3 a b ∧ hk_len LP0 LP2 LP3 a b ≤ 20000000 ∧ -200000 ≤ hk_len LP0 LP2 LP3 a b - hk_p LP2 LP3 b + hk_p LP2 LP3 a ∧ hk_len LP0 LP2 LP3 a b - hk_p LP2 LP3 b + hk_p LP2 LP3 a ≤ 200000 ∧ a ≠ b := by
  unfold hk_len hk_p
  rcases h with ⟨h1, h2, h3, h4⟩ | ⟨h1, h2, h3, h4⟩
  · rw [if_pos (by omega), if_neg (by omega), if_pos (by omega)]
    have k := hD.1 a (b - 12) h1 (by omega)
    have kr := hD.2.1 a h1
    have kw := hD.2.2 (b - 12) (by omega)
    refine ⟨by omega, by omega, Or.inl h1, Or.inr ⟨h2, h3⟩, ?_⟩
    rcases k with k | ⟨k1, k2, k3, k4, k5, k6⟩
    · omega
    · have := k6 h4
      omega
  · rw [if_neg (by omega), if_pos (by omega), if_neg (by omega)]
    have k := hD.1 b (a - 12) h3 (by omega)
    have kr := hD.2.1 b h3
    have kw := hD.2.2 (a - 12) (by omega)
    refine ⟨by omega, by omega, Or.inr ⟨h1, h2⟩, Or.inl h3, ?_⟩
    rcases k with k | ⟨k1, k2, k3, k4, k5, k6⟩
    · exact absurd k.1 h4
    · omega
theorem hk_reach (hn : n ≤ 12) (hF : F ≤ 8) (hD : hk_D n F LP0 LP1 LP2 LP3) {st t cur : Nat} {Q : Nat → Prop} {done : Nat → Int32} {key : Nat → Int64} {bef : Nat → Int32} (ht : t ≤ 30) (hst : st < n ∨ (12 ≤ st ∧ st < 12 + F))
    (hcd : ¬ done cur = 0) (hck : (key cur).toInt % 32 + 1 ≤ t) {node : Nat} {cents : Int64} (ha : hk_arc n F LP0 LP1 cur node) (hc : cents.toInt = hk_len LP0 LP2 LP3 cur node) (h : hk_R n F LP0 LP1 LP2 LP3 st t cur Q done key bef) :
    hk_R n F LP0 LP1 LP2 LP3 st t cur (fun v => Q v ∨ v = node) done (f_Plan_reach key done bef node cur cents).1 (f_Plan_reach key done bef node cur cents).2 ∧ (f_Plan_reach key done bef node cur cents).1 cur = key cur := by
  obtain ⟨r0, r1, r2, r3, r4, r5, r6⟩ := h
  have al := hk_arc_len hn hF hD ha
  have hcr := r6 cur al.1 hcd
  have hco := r1 cur al.1 hcr
  have pc := hk_pb hn hD al.2.2.1
  have pn := hk_pb hn hD al.2.2.2.1
  have pst := hk_pb hn hD hst
  unfold hk_ok at hco
  have e1 : (cents * 32).toInt = cents.toInt * 32 := by
    have e32 : (32 : Int64).toInt = 32 := by decide
    rw [h64_mul (by rw [e32]; omega) (by rw [e32]; omega), e32]
  have e2 : (key cur + cents * 32).toInt = (key cur).toInt + cents.toInt * 32 := by rw [h64_add (by omega) (by omega), e1]
  have e3 : (key cur + cents * 32 + 1).toInt = (key cur).toInt + 32 * hk_len LP0 LP2 LP3 cur node + 1 := by
    have e1' : (1 : Int64).toInt = 1 := by decide
    rw [h64_add (by omega) (by omega), e2, e1', hc]
    omega
  unfold f_Plan_reach
  by_cases c1 : done node = 0
  · rw [if_pos c1]
    by_cases c2 : key node ≤ key cur + cents * 32 + 1
    · rw [if_pos c2]
      rw [h64_le, e3] at c2
      refine ⟨⟨r0, r1, r2, r3, fun a v ha1 hv hda har hq => ?_, r5, r6⟩, rfl⟩
      by_cases c : a ≠ cur ∨ Q v
      · exact r4 a v ha1 hv hda har c
      · have ea : a = cur := Classical.byContradiction (fun q => c (Or.inl q))
        have ev : v = node := by
          rcases hq with q | q | q
          · exact absurd ea q
          · exact absurd (Or.inr q) c
          · exact q
        subst ea
        subst ev
        refine ⟨fun q => ?_, c2⟩
        have q' : key v = 9223372036854775807 := q
        rw [q', hk_far] at c2
        omega
    · rw [if_neg c2]
      rw [h64_le, e3] at c2
      have hne : node ≠ cur := fun q => hcd (q ▸ c1)
      have self : vp_updL key node (key cur + cents * 32 + 1) node = key cur + cents * 32 + 1 := hp_updL _ _ _
      have oth : ∀ v, v ≠ node → vp_updL key node (key cur + cents * 32 + 1) v = key v := fun v hv => hp_updLn _ _ hv
      have dn : ∀ a, ¬ done a = 0 → vp_updL key node (key cur + cents * 32 + 1) a = key a := fun a hd => oth a (fun q => hd (q ▸ c1))
      generalize hk' : vp_updL key node (key cur + cents * 32 + 1) = key' at *
      have hst0 : node ≠ st := by
        intro q
        subst q
        omega
      show hk_R n F LP0 LP1 LP2 LP3 st t cur (fun v => Q v ∨ v = node) done key' (upd bef node (nI cur)) ∧ key' cur = key cur
      refine ⟨⟨?_, ?_, ?_, ?_, ?_, ?_, ?_⟩, dn cur hcd⟩
      · rw [oth st (Ne.symm hst0)]; exact r0
      · intro v hv hr
        by_cases e : v = node
        · subst e
          unfold hk_ok
          rw [self, e3]
          have m1 : ((key cur).toInt + 32 * hk_len LP0 LP2 LP3 cur v + 1) % 32 = (key cur).toInt % 32 + 1 := by omega
          have m2 : ((key cur).toInt + 32 * hk_len LP0 LP2 LP3 cur v + 1) / 32 = (key cur).toInt / 32 + hk_len LP0 LP2 LP3 cur v := by omega
          rw [m1, m2]
          refine ⟨al.2.2.2.1, by omega, by omega, by omega, by omega⟩
        · have hr' : hk_rch key v := by unfold hk_rch at hr ⊢; rw [oth v e] at hr; exact hr
          have := r1 v hv hr'
          unfold hk_ok at this ⊢
          rw [oth v e]
          exact this
      · intro v hv hr
        by_cases e : v = node
        · subst e
          exact Or.inr ⟨cur, al.1, hcd, ha, pk_us, by rw [self, e3, dn cur hcd]⟩
        · have hr' : hk_rch key v := by unfold hk_rch at hr ⊢; rw [oth v e] at hr; exact hr
          rcases r2 v hv hr' with q | ⟨a, a1, a2, a3, a4, a5⟩
          · exact Or.inl q
          · exact Or.inr ⟨a, a1, a2, a3, by rw [pk_un e]; exact a4, by rw [oth v e, dn a a2]; exact a5⟩
      · intro a v ha1 hv hda hdv
        rw [dn a hda]
        by_cases e : v = node
        · subst e
          rw [self, e3]
          have := r5 a ha1 hda
          omega
        · rw [oth v e]
          exact r3 a v ha1 hv hda hdv
      · intro a v ha1 hv hda har hq
        unfold hk_rch
        rw [dn a hda]
        by_cases e : v = node
        · subst e
          rw [self]
          refine ⟨fun q => ?_, ?_⟩
          · have := e3
            rw [q, hk_far] at this
            omega
          · rw [e3]
            by_cases ea : a = cur
            · subst ea; omega
            · have h1 := r4 a v ha1 hv hda har (Or.inl ea)
              omega
        · rw [oth v e]
          refine r4 a v ha1 hv hda har ?_
          rcases hq with q | q | q
          · exact Or.inl q
          · exact Or.inr q
          · exact absurd q e
      · intro a ha1 hda
        rw [dn a hda, dn cur hcd]
        exact r5 a ha1 hda
      · intro a ha1 hda
        unfold hk_rch
        rw [dn a hda]
        exact r6 a ha1 hda
  · rw [if_neg c1]
    refine ⟨⟨r0, r1, r2, r3, fun a v ha1 hv hda har hq => ?_, r5, r6⟩, rfl⟩
    by_cases c : a ≠ cur ∨ Q v
    · exact r4 a v ha1 hv hda har c
    · have ea : a = cur := Classical.byContradiction (fun q => c (Or.inl q))
      have ev : v = node := by
        rcases hq with q | q | q
        · exact absurd ea q
        · exact absurd (Or.inr q) c
        · exact q
      subst ea
      subst ev
      have h1 := r5 v hv c1
      refine ⟨r6 v hv c1, ?_⟩
      show (key v).toInt ≤ (key a).toInt + 32 * hk_len LP0 LP2 LP3 a v + 1
      omega
theorem hk_R.mono {st t cur : Nat} {Q Q' : Nat → Prop} {done : Nat → Int32} {key : Nat → Int64} {bef : Nat → Int32} (h : hk_R n F LP0 LP1 LP2 LP3 st t cur Q done key bef) (hq : ∀ v, hk_arc n F LP0 LP1 cur v → Q' v → Q v) : hk_R n F LP0 LP1 LP2 LP3 st t cur Q' done key bef := by
  obtain ⟨r0, r1, r2, r3, r4, r5, r6⟩ := h
  refine ⟨r0, r1, r2, r3, fun a v ha1 hv hda har hq1 => ?_, r5, r6⟩
  by_cases e : a = cur
  · subst e
    rcases hq1 with q | q
    · exact absurd rfl q
    · exact r4 a v ha1 hv hda har (Or.inr (hq v har q))
  · exact r4 a v ha1 hv hda har (Or.inl e)
theorem hk_reachFills (hn : n ≤ 12) (hF : F ≤ 8) (hD : hk_D n F LP0 LP1 LP2 LP3) {st t cur : Nat} {done : Nat → Int32} (ht : t ≤ 30) (hst : st < n ∨ (12 ≤ st ∧ st < 12 + F)) (hcn : cur < n) (hcd : ¬ done cur = 0) :
    ∀ (m x2 : Nat) (key : Nat → Int64) (bef : Nat → Int32), F - x2 < m → (key cur).toInt % 32 + 1 ≤ t → hk_R n F LP0 LP1 LP2 LP3 st t cur (fun v => v < 12 + x2) done key bef →
      hk_R n F LP0 LP1 LP2 LP3 st t cur (fun _ => True) done (f_Plan_reachFills_h2 F LP1 cur done f_Plan_reachFills_x2 m x2 key bef).1 (f_Plan_reachFills_h2 F LP1 cur done f_Plan_reachFills_x2 m x2 key bef).2 := by
  intro m
  induction m with
  | zero => exact fun x2 key bef h _ _ => absurd h (Nat.not_lt_zero _)
  | succ m ih =>
    intro x2 key bef hm hck h
    rw [f_Plan_reachFills_h2]
    unfold f_Plan_reachFills_h2B hh_bind
    by_cases c1 : F ≤ x2
    · rw [if_pos c1]
      refine h.mono (fun v ha _ => ?_)
      have := hk_arc_len hn hF hD ha
      show v < 12 + x2
      rcases ha with q | q
      · omega
      · omega
    · rw [if_neg c1]
      by_cases c2 : LP1 (cur * 9 + x2) ≤ 0
      · rw [if_pos c2]
        refine ih (x2 + 1) key bef (by omega) hck (h.mono (fun v ha hv => ?_))
        rcases ha with ⟨q1, q2, q3, q4⟩ | q
        · by_cases e : v = 12 + x2
          · subst e
            unfold hk_X at q4
            rw [show 12 + x2 - 12 = x2 by omega] at q4
            rw [h64_le, h64_0] at c2
            omega
          · omega
        · omega
      · rw [if_neg c2]
        have ha : hk_arc n F LP0 LP1 cur (12 + x2) := by
          refine Or.inl ⟨hcn, by omega, by omega, ?_⟩
          unfold hk_X
          rw [show 12 + x2 - 12 = x2 by omega]
          rw [h64_le, h64_0] at c2
          omega
        have k := hk_reach hn hF hD ht hst hcd hck ha (cents := 0) (by unfold hk_len; rw [if_pos (by omega)]; exact h64_0) h
        refine ih (x2 + 1) _ _ (by omega) (by rw [k.2]; exact hck) (k.1.mono (fun v _ hv => ?_))
        show v < 12 + x2 ∨ v = 12 + x2
        omega
theorem hk_reachSources (hn : n ≤ 12) (hF : F ≤ 8) (hD : hk_D n F LP0 LP1 LP2 LP3) {st t x1 : Nat} {done : Nat → Int32} (ht : t ≤ 30) (hst : st < n ∨ (12 ≤ st ∧ st < 12 + F)) (hcn : x1 < F) (hcd : ¬ done (12 + x1) = 0) :
    ∀ (m x2 : Nat) (key : Nat → Int64) (bef : Nat → Int32), n - x2 < m → (key (12 + x1)).toInt % 32 + 1 ≤ t → hk_R n F LP0 LP1 LP2 LP3 st t (12 + x1) (fun v => v < x2) done key bef →
      hk_R n F LP0 LP1 LP2 LP3 st t (12 + x1) (fun _ => True) done (f_Plan_reachSources_h2 n LP0 x1 done LP2 LP3 f_Plan_reachSources_x2 m x2 key bef).1 (f_Plan_reachSources_h2 n LP0 x1 done LP2 LP3 f_Plan_reachSources_x2 m x2 key bef).2 := by
  intro m
  induction m with
  | zero => exact fun x2 key bef h _ _ => absurd h (Nat.not_lt_zero _)
  | succ m ih =>
    intro x2 key bef hm hck h
    rw [f_Plan_reachSources_h2]
    unfold f_Plan_reachSources_h2B hh_bind
    by_cases c1 : n ≤ x2
    · rw [if_pos c1]
      refine h.mono (fun v ha _ => ?_)
      show v < x2
      rcases ha with q | q
      · omega
      · omega
    · rw [if_neg c1]
      by_cases c2 : LP0 (x2 * 9 + x1) = -1
      · rw [if_pos c2]
        refine ih (x2 + 1) key bef (by omega) hck (h.mono (fun v ha hv => ?_))
        show v < x2
        rcases ha with q | ⟨q1, q2, q3, q4⟩
        · omega
        · by_cases e : v = x2
          · subst e
            rw [show 12 + x1 - 12 = x1 by omega] at q4
            exact absurd c2 q4
          · omega
      · rw [if_neg c2]
        have ha : hk_arc n F LP0 LP1 (12 + x1) x2 := Or.inr ⟨by omega, by omega, by omega, by rw [show 12 + x1 - 12 = x1 by omega]; exact c2⟩
        have hc : (LP0 (x2 * 9 + x1) + LP2 x2 - LP3 x1).toInt = hk_len LP0 LP2 LP3 (12 + x1) x2 := by
          unfold hk_len
          rw [if_neg (by omega), show 12 + x1 - 12 = x1 by omega]
          have k := hD.1 x2 x1 (by omega) hcn
          have kr := hD.2.1 x2 (by omega)
          have kw := hD.2.2 x1 hcn
          rcases k with k | ⟨k1, k2, k3, -⟩
          · exact absurd k.1 c2
          · have e1 : (LP0 (x2 * 9 + x1) + LP2 x2).toInt = (LP0 (x2 * 9 + x1)).toInt + (LP2 x2).toInt := h64_add (by omega) (by omega)
            rw [h64_sub (by omega) (by omega), e1]
        have k := hk_reach hn hF hD ht hst hcd hck ha hc h
        refine ih (x2 + 1) _ _ (by omega) (by rw [k.2]; exact hck) (k.1.mono (fun v _ hv => ?_))
        show v < x2 ∨ v = x2
        omega
/-- nearest: none that is reached and not done; or the least of them -/
theorem hk_nearest9 {done : Nat → Int32} {key : Nat → Int64} : ∀ (m x4 : Nat) (x1 : Int32) (x2 : Int64), 12 + F - x4 < m → (∀ v, v < x4 → done v = 0 → x2 ≤ key v) → ((x1 = -1 ∧ x2 = 9223372036854775807) ∨ ∃ j, j < 12 + F ∧ x1 = nI j ∧ x2 = key j ∧ done j = 0 ∧ hk_rch key j) →
    (f_Plan_nearest_h9 F done key f_Plan_nearest_x9 m x1 x2 x4 = -1 ∧ ∀ v, v < 12 + F → done v = 0 → key v = 9223372036854775807) ∨ ∃ j, j < 12 + F ∧ f_Plan_nearest_h9 F done key f_Plan_nearest_x9 m x1 x2 x4 = nI j ∧ done j = 0 ∧ hk_rch key j ∧ ∀ v, v < 12 + F → done v = 0 → key j ≤ key v := by
  intro m
  induction m with
  | zero => exact fun x4 x1 x2 h _ _ => absurd h (Nat.not_lt_zero _)
  | succ m ih =>
    intro x4 x1 x2 hm hall h
    rw [f_Plan_nearest_h9]
    unfold f_Plan_nearest_h9B
    by_cases c1 : 12 + F ≤ x4
    · rw [if_pos c1]
      rcases h with ⟨h1, h2⟩ | ⟨j, j1, j2, j3, j4, j5⟩
      · refine Or.inl ⟨h1, fun v hv hd => ?_⟩
        have := hall v (by omega) hd
        rw [h2] at this
        exact Int64.toInt_inj.mp (by
          have a := h64_le.mp this
          have b := h64_le.mp (hp_far (key v))
          omega)
      · exact Or.inr ⟨j, j1, j2, j4, j5, fun v hv hd => j3 ▸ hall v (by omega) hd⟩
    · rw [if_neg c1]
      by_cases c2 : done x4 = 0
      · rw [if_pos c2]
        by_cases c3 : x2 ≤ key x4
        · rw [if_pos c3]
          refine ih (x4 + 1) x1 x2 (by omega) (fun v hv hd => ?_) h
          by_cases e : v = x4
          · subst e; exact c3
          · exact hall v (by omega) hd
        · rw [if_neg c3]
          refine ih (x4 + 1) _ _ (by omega) (fun v hv hd => ?_) (Or.inr ⟨x4, by omega, rfl, rfl, c2, hp_lt_far c3⟩)
          by_cases e : v = x4
          · subst e; exact Int64.le_refl _
          · have := hall v (by omega) hd
            rw [h64_le] at this c3 ⊢
            omega
      · rw [if_neg c2]
        refine ih (x4 + 1) x1 x2 (by omega) (fun v hv hd => ?_) h
        by_cases e : v = x4
        · subst e; exact absurd hd c2
        · exact hall v (by omega) hd
theorem hk_nearest (hF : F ≤ 8) (done : Nat → Int32) (key : Nat → Int64) :
    (f_Plan_nearest F key done = -1 ∧ ∀ v, v < 12 + F → done v = 0 → key v = 9223372036854775807) ∨ ∃ j, j < 12 + F ∧ f_Plan_nearest F key done = nI j ∧ done j = 0 ∧ hk_rch key j ∧ ∀ v, v < 12 + F → done v = 0 → key j ≤ key v :=
  hk_nearest9 21 0 (-1) 9223372036854775807 (by omega) (fun v h => absurd h (Nat.not_lt_zero _)) (Or.inl ⟨rfl, rfl⟩)
end HSEARCH2
