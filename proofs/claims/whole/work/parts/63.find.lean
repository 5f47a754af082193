/-! ===== find(): fewest hops first, so it ends soon ===== -/
/-- labels that no arc with a rest outruns -/
def hc_V (R : Nat → Int64) (lb : Nat → Nat) (D : Nat) : Prop := lb 32 = 0 ∧ lb 33 = D ∧ ∀ a b, a < 34 → b < 34 → 0 < (R (34 * a + b)).toInt → lb b ≤ lb a + 1
def hc_adm (R : Nat → Int64) (lb : Nat → Nat) : Nat := hn (fun i => decide (0 < (R i).toInt ∧ lb (i % 34) = lb (i / 34) + 1)) 1156
def hc_mu (R : Nat → Int64) (lb : Nat → Nat) (D : Nat) : Nat := (34 - D) * 1200 + hc_adm R lb
section HFIND
variable {R : Nat → Int64}
theorem hc_less {bef : Nat → Int32} {dep lb : Nat → Nat} {D L : Nat} {m : Int} {R' : Nat → Int64} (hr : hm_road R bef dep 32 33 L) (hK : hc_K R bef dep 33 L m R') (hat : ∃ j, j < L ∧ m = (R (34 * hm_p bef 33 (j + 1) + hm_p bef 33 j)).toInt) (hV : hc_V R lb D) (ht : ∀ j, j < L → lb (hm_p bef 33 j) = lb (hm_p bef 33 (j + 1)) + 1) :
    hc_V R' lb D ∧ hc_adm R' lb < hc_adm R lb := by
  refine ⟨⟨hV.1, hV.2.1, fun a b ha hb hp => ?_⟩, ?_⟩
  · rcases hK.1.2.2.2.1 a b ha hb hp with q | ⟨j, hj, ea, eb⟩
    · exact hV.2.2 a b ha hb q
    · have := ht j hj
      rw [ea, eb]
      omega
  · obtain ⟨j, hj, hm⟩ := hat
    have hu := (hr.2.2 j hj).2.1
    have hx := hm_road_lt hr j (by omega)
    have hd : (34 * hm_p bef 33 (j + 1) + hm_p bef 33 j) / 34 = hm_p bef 33 (j + 1) := by omega
    have hmo : (34 * hm_p bef 33 (j + 1) + hm_p bef 33 j) % 34 = hm_p bef 33 j := by omega
    have key := hn_lt (p := fun i => decide (i < 1156 ∧ 0 < (R' i).toInt ∧ lb (i % 34) = lb (i / 34) + 1)) (q := fun i => decide (i < 1156 ∧ 0 < (R i).toInt ∧ lb (i % 34) = lb (i / 34) + 1)) (fun i hi => ?_) (k := 34 * hm_p bef 33 (j + 1) + hm_p bef 33 j) ?_ ?_ (n := 1156) (by omega)
    · have e1 : ∀ (Q : Nat → Int64) (n : Nat), n ≤ 1156 → hn (fun i => decide (i < 1156 ∧ 0 < (Q i).toInt ∧ lb (i % 34) = lb (i / 34) + 1)) n = hn (fun i => decide (0 < (Q i).toInt ∧ lb (i % 34) = lb (i / 34) + 1)) n := by
        intro Q n
        induction n with
        | zero => exact fun _ => rfl
        | succ n ih =>
          intro hn1
          show hn (fun i => decide (i < 1156 ∧ 0 < (Q i).toInt ∧ lb (i % 34) = lb (i / 34) + 1)) n + _ = hn (fun i => decide (0 < (Q i).toInt ∧ lb (i % 34) = lb (i / 34) + 1)) n + _
          rw [ih (by omega)]
          have : (n < 1156 ∧ 0 < (Q n).toInt ∧ lb (n % 34) = lb (n / 34) + 1) = (0 < (Q n).toInt ∧ lb (n % 34) = lb (n / 34) + 1) := propext ⟨fun h => h.2, fun h => ⟨by omega, h⟩⟩
          simp only [this]
      unfold hc_adm
      rw [← e1 R' 1156 (Nat.le_refl _), ← e1 R 1156 (Nat.le_refl _)]
      exact key
    · have hi' := of_decide_eq_true hi
      obtain ⟨h1, h2, h3⟩ := hi'
      refine decide_eq_true ⟨h1, ?_, h3⟩
      have ei : i = 34 * (i / 34) + i % 34 := by omega
      rw [ei] at h2
      rcases hK.1.2.2.2.1 (i / 34) (i % 34) (by omega) (by omega) h2 with q | ⟨j', hj', ea, eb⟩
      · rw [← ei] at q; exact q
      · have := ht j' hj'
        rw [ea, eb] at h3
        omega
    · intro h
      have h' := of_decide_eq_true h
      have := hK.2 j hj
      omega
    · refine decide_eq_true ⟨by omega, (hr.2.2 j hj).2.2.2.2, ?_⟩
      rw [hd, hmo]
      exact ht j hj
theorem hc_shorter {q x : Nat} {queue : Nat → Nat} {bef : Nat → Int32} {pos lev lb : Nat → Nat} {D : Nat} (hB : hc_B R 32 q queue bef pos lev) (hD : hc_D R x queue bef lev) (hen : ¬ bef 33 = -1) (hlast : ∀ i, x ≤ i → i < q → lev 33 ≤ lev (queue i) + 1) (hb : hm_rb R) (hb40 : ∀ a b, a < 34 → b < 34 → (R (34 * a + b)).toInt ≤ 1099511627776) (hV : hc_V R lb D) (hD33 : D ≤ 33) :
    ∃ m L dep, 0 < m ∧ hm_p bef 33 L = 32 ∧ hc_K R bef dep 33 L m (f_Shortage_push R bef) ∧ ∃ lb' D', hc_V (f_Shortage_push R bef) lb' D' ∧ D' ≤ 33 ∧ hc_mu (f_Shortage_push R bef) lb' D' < hc_mu R lb D := by
  obtain ⟨L, l1, l2, l3, l4⟩ := hc_road hB (pos 33 + 1) 33 (Nat.lt_succ_self _) (by omega) hen
  have hq := hB.q34
  have hp33 := (hB.1 33 (by omega) hen).1
  have hL0 : 0 < L := by
    rcases Nat.eq_zero_or_pos L with e | e
    · subst e
      have h1 : (33 : Nat) = 32 := l3.1
      omega
    · exact e
  obtain ⟨m, m1, m2, m3⟩ := hc_pushed l3 (by omega) hL0 hb hb40
  refine ⟨m, L, pos, m1, l3.1, m2, ?_⟩
  -- old labels along the road
  have up : ∀ j, j ≤ L → lb (hm_p bef 33 (L - j)) ≤ j := by
    intro j
    induction j with
    | zero =>
      intro _
      rw [Nat.sub_zero, l3.1, hV.1]
      exact Nat.le_refl _
    | succ j ih =>
      intro hj
      have k := l3.2.2 (L - (j + 1)) (by omega)
      rw [show L - (j + 1) + 1 = L - j by omega] at k
      have v := hV.2.2 _ _ k.2.1 (hm_road_lt l3 (L - (j + 1)) (by omega)) k.2.2.2.2
      have := ih (by omega)
      omega
  have hDk : D ≤ L := by
    have := up L (Nat.le_refl _)
    rw [Nat.sub_self] at this
    have e : lb (hm_p bef 33 0) = D := hV.2.1
    omega
  by_cases c : D = L
  · have low : ∀ j, j ≤ L → D ≤ lb (hm_p bef 33 j) + j := by
      intro j
      induction j with
      | zero =>
        intro _
        have e : lb (hm_p bef 33 0) = D := hV.2.1
        omega
      | succ j ih =>
        intro hj
        have k := l3.2.2 j (by omega)
        have v := hV.2.2 _ _ k.2.1 (hm_road_lt l3 j (by omega)) k.2.2.2.2
        have := ih (by omega)
        omega
    have ht : ∀ j, j < L → lb (hm_p bef 33 j) = lb (hm_p bef 33 (j + 1)) + 1 := by
      intro j hj
      have a := low j (by omega)
      have b := up (L - j) (by omega)
      have a' := low (j + 1) (by omega)
      have b' := up (L - (j + 1)) (by omega)
      rw [show L - (L - j) = j by omega] at b
      rw [show L - (L - (j + 1)) = j + 1 by omega] at b'
      omega
    have k := hc_less l3 m2 m3 hV ht
    refine ⟨lb, D, k.1, hD33, ?_⟩
    unfold hc_mu
    omega
  · -- new labels
    have hV2 : hc_V R (fun v => if bef v = -1 then L else if lev v ≤ L then lev v else L) L := by
      refine ⟨?_, ?_, fun a b ha hb' hp => ?_⟩
      · show (if bef 32 = -1 then L else if lev 32 ≤ L then lev 32 else L) = 0
        rw [if_neg hB.2.2.2.2.2.1, hB.2.2.2.2.2.2, if_pos (Nat.zero_le _)]
      · show (if bef 33 = -1 then L else if lev 33 ≤ L then lev 33 else L) = L
        rw [if_neg hen, if_pos (by omega)]
        exact l1.symm
      · show (if bef b = -1 then L else if lev b ≤ L then lev b else L) ≤ (if bef a = -1 then L else if lev a ≤ L then lev a else L) + 1
        have hbL : (if bef b = -1 then L else if lev b ≤ L then lev b else L) ≤ L := by
          by_cases e : bef b = -1
          · rw [if_pos e]; exact Nat.le_refl _
          · rw [if_neg e]
            by_cases e2 : lev b ≤ L
            · rw [if_pos e2]; exact e2
            · rw [if_neg e2]; exact Nat.le_refl _
        by_cases ea : bef a = -1
        · rw [if_pos ea]; omega
        · rw [if_neg ea]
          have pa := hB.1 a ha ea
          by_cases px : pos a < x
          · have k := hD (pos a) b px hb' (by rw [pa.2]; exact hp)
            rw [pa.2] at k
            rw [if_neg k.1] at hbL ⊢
            by_cases e2 : lev b ≤ L
            · rw [if_pos e2]
              by_cases e3 : lev a ≤ L
              · rw [if_pos e3]; omega
              · rw [if_neg e3]; omega
            · rw [if_neg e2]
              by_cases e3 : lev a ≤ L
              · rw [if_pos e3]; omega
              · rw [if_neg e3]; omega
          · have k := hlast (pos a) (by omega) pa.1
            rw [pa.2] at k
            by_cases e3 : lev a ≤ L
            · rw [if_pos e3]; omega
            · rw [if_neg e3]; omega
    have ht : ∀ j, j < L → (fun v => if bef v = -1 then L else if lev v ≤ L then lev v else L) (hm_p bef 33 j) = (fun v => if bef v = -1 then L else if lev v ≤ L then lev v else L) (hm_p bef 33 (j + 1)) + 1 := by
      intro j hj
      have a := l4 j (by omega)
      have b := l4 (j + 1) (by omega)
      show (if bef (hm_p bef 33 j) = -1 then L else if lev (hm_p bef 33 j) ≤ L then lev (hm_p bef 33 j) else L) = (if bef (hm_p bef 33 (j + 1)) = -1 then L else if lev (hm_p bef 33 (j + 1)) ≤ L then lev (hm_p bef 33 (j + 1)) else L) + 1
      rw [if_neg a.1, if_neg b.1, if_pos (by omega), if_pos (by omega)]
      omega
    have k := hc_less l3 m2 m3 hV2 ht
    refine ⟨_, L, k.1, by omega, ?_⟩
    have hbnd := hn_le (fun i => decide (0 < (R i).toInt ∧ (fun v => if bef v = -1 then L else if lev v ≤ L then lev v else L) (i % 34) = (fun v => if bef v = -1 then L else if lev v ≤ L then lev v else L) (i / 34) + 1)) 1156
    have hk2 := k.2
    unfold hc_mu
    unfold hc_adm at hk2 ⊢
    omega
/-- a flow over the class's network: what the rests became -/
def hc_F (R0 R : Nat → Int64) : Prop := hm_rb R ∧ (∀ a b, a < 34 → b < 34 → (R (34 * a + b)).toInt + (R (34 * b + a)).toInt = (R0 (34 * a + b)).toInt + (R0 (34 * b + a)).toInt) ∧ ∃ s, ∀ w, w < 34 → ho R w = ho R0 w + (if w = 33 then s else 0) - (if w = 32 then s else 0)
theorem hc_F.push {R0 R : Nat → Int64} (h : hc_F R0 R) {bef : Nat → Int32} {dep : Nat → Nat} {L : Nat} {m : Int} {R' : Nat → Int64} (hp : hm_p bef 33 L = 32) (hK : hc_K R bef dep 33 L m R') : hc_F R0 R' := by
  obtain ⟨h1, h2, s, h3⟩ := h
  refine ⟨hm_sent_rb h1 hK.1, fun a b ha hb => (hK.1.2.1 a b ha hb).trans (h2 a b ha hb), s + m, fun w hw => ?_⟩
  have k := hK.1.1 w hw
  rw [hp] at k
  rw [k, h3 w hw]
  by_cases e : w = 33
  · rw [if_pos e, if_pos e, if_pos e]
    by_cases e2 : w = 32
    · omega
    · rw [if_neg e2, if_neg e2, if_neg e2]; omega
  · rw [if_neg e, if_neg e, if_neg e]
    by_cases e2 : w = 32
    · rw [if_pos e2, if_pos e2, if_pos e2]; omega
    · rw [if_neg e2, if_neg e2, if_neg e2]; omega
theorem hc_6 {R0 : Nat → Int64} (hb40 : ∀ a b, a < 34 → b < 34 → (R0 (34 * a + b)).toInt + (R0 (34 * b + a)).toInt ≤ 1099511627776) {Post : (Nat → Int64) × (Nat → Int32) × (Nat → Nat) × Nat × (Nat → Nat) → Prop} {k : Nat → (Nat → Int64) → (Nat → Int32) → (Nat → Nat) → (Nat → Int64) × (Nat → Int32) × (Nat → Nat) × Nat × (Nat → Nat)}
    (hk : ∀ x R bef queue, hc_F R0 R → (∃ sn : Nat → Int32, ¬ sn 32 = -1 ∧ sn 33 = -1 ∧ ∀ a v, a < 34 → v < 34 → ¬ sn a = -1 → 0 < (R (34 * a + v)).toInt → ¬ sn v = -1) → Post (k x R bef queue)) :
    ∀ (m x : Nat) (R : Nat → Int64) (bef : Nat → Int32) (queue lb : Nat → Nat) (D : Nat), 1000000 - x < m → hc_F R0 R → hc_V R lb D → D ≤ 33 → x + hc_mu R lb D ≤ 50000 → Post (f_Shortage_find_h6 k m x R bef queue) := by
  intro m
  induction m with
  | zero => exact fun x R bef queue lb D h => absurd h (Nat.not_lt_zero _)
  | succ m ih =>
    intro x R bef queue lb D hm hF hV hD33 hmu
    rw [f_Shortage_find_h6]
    unfold f_Shortage_find_h6B
    rw [if_neg (by omega), hh_bind]
    have ho := hc_reach R (st := 32) (en := 33) (by omega) (by omega) (by omega) queue bef
    generalize f_Shortage_canReach queue R bef 32 33 = y at ho ⊢
    rcases ho with ⟨o1, o2, o3, o4⟩ | ⟨o1, o2, q, x', pos, lev, o3, o4, o5⟩
    · rw [o1, if_pos (by decide)]
      exact hk _ _ _ _ hF ⟨y.2.1, o2, o3, o4⟩
    · rw [o1, if_neg (by decide), hh_bind]
      obtain ⟨mm, L, dep, a1, a2, a3, lb', D', a4, a5, a6⟩ := hc_shorter o3 o4 o2 o5 hF.1 (fun a b ha hb => by
        have p1 := hF.2.1 a b ha hb
        have p2 := hb40 a b ha hb
        have p3 := (hF.1 b a hb ha).1
        omega) hV hD33
      exact ih (x + 1) _ _ _ lb' D' (by omega) (hF.push a2 a3) a4 a5 (by omega)
/-- whether a set that holds a node, and that nothing leaves, must hold another one -/
def hc_Cl (R : Nat → Int64) (st en : Nat) : Prop := ∀ S : Nat → Prop, S st → (∀ a v, a < 34 → v < 34 → S a → 0 < (R (34 * a + v)).toInt → S v) → S en
theorem hc_out.cl {st en : Nat} (hen : en < 34) {r : Int32 × (Nat → Int32) × (Nat → Nat)} (h : hc_out R st en r) : (r.1 = nI 0 ∧ ¬ hc_Cl R st en) ∨ (r.1 = nI 1 ∧ hc_Cl R st en) := by
  rcases h with ⟨o1, o2, o3, o4⟩ | ⟨o1, o2, q, x', pos, lev, o3, o4, o5⟩
  · exact Or.inl ⟨o1, fun hc => hc (fun v => ¬ r.2.1 v = -1) o2 o4 o3⟩
  · refine Or.inr ⟨o1, fun S hS hcl => ?_⟩
    have all : ∀ N v, pos v < N → v < 34 → ¬ r.2.1 v = -1 → S v := by
      intro N
      induction N with
      | zero => exact fun v h => absurd h (Nat.not_lt_zero _)
      | succ N ih =>
        intro v hN hv hs1
        rcases o3.2.2.1 v hv hs1 with k | ⟨a, k1, k2, k3, k4, k5, k6⟩
        · rw [k]; exact hS
        · exact hcl a v k1 hv (ih a (by omega) k1 k2) k4
    exact all (pos en + 1) en (Nat.lt_succ_self _) hen o2
/-- a list of all fills with c, by numbers -/
def hc_list (c : Nat → Bool) (F n : Nat) (l : Nat → Nat) : Prop := n = hn c F ∧ ∀ f, f < F → c f = true → l (hn c f) = f
theorem hc_list_skip {c : Nat → Bool} {F n : Nat} {l : Nat → Nat} (h : hc_list c F n l) (hc : ¬ c F = true) : hc_list c (F + 1) n l := by
  refine ⟨?_, fun f hf hcf => h.2 f ?_ hcf⟩
  · show n = hn c F + (if c F = true then 1 else 0)
    rw [if_neg hc]
    exact h.1
  · by_cases e : f = F
    · subst e; exact absurd hcf hc
    · omega
theorem hn_lt2 {c : Nat → Bool} {a b : Nat} (h : a < b) (hc : c a = true) : hn c a < hn c b := by
  have : ∀ k, hn c a < hn c (a + 1 + k) := by
    intro k
    induction k with
    | zero =>
      show hn c a < hn c a + (if c a = true then 1 else 0)
      rw [if_pos hc]; omega
    | succ k ih =>
      show hn c a < hn c (a + 1 + k) + (if c (a + 1 + k) = true then 1 else 0)
      omega
  have := this (b - a - 1)
  rw [show a + 1 + (b - a - 1) = b by omega] at this
  exact this
theorem hc_list_add {c : Nat → Bool} {F n : Nat} {l : Nat → Nat} (h : hc_list c F n l) (hc : c F = true) : hc_list c (F + 1) (n + 1) (va_up l n F) := by
  refine ⟨?_, fun f hf hcf => ?_⟩
  · show n + 1 = hn c F + (if c F = true then 1 else 0)
    rw [if_pos hc, h.1]
  · by_cases e : f = F
    · subst e
      rw [← h.1, va_up_self]
    · have := hn_lt2 (show f < F by omega) hcf
      rw [va_up_ne _ _ (by have := h.1; omega)]
      exact h.2 f (by omega) hcf
theorem hc_40 {F : Nat} {wk : Nat → Nat} (hF : F ≤ 8) (hwk12 : ∀ f, wk f < 12) {c : Nat → Bool} (hc : ∀ f, f < F → (c f = true ↔ hc_Cl R (12 + f) (20 + wk f))) {Post : (Nat → Int64) × (Nat → Int32) × (Nat → Nat) × Nat × (Nat → Nat) → Prop} (hk : ∀ bef queue n l, hc_list c F n l → Post (R, bef, queue, n, l)) :
    ∀ (m x : Nat) (bef : Nat → Int32) (queue : Nat → Nat) (n : Nat) (l : Nat → Nat), F - x < m → x ≤ F → hc_list c x n l → Post (f_Shortage_find_h40 F R wk (f_Shortage_find_x40 R) m x bef queue n l) := by
  intro m
  induction m with
  | zero => exact fun x bef queue n l h => absurd h (Nat.not_lt_zero _)
  | succ m ih =>
    intro x bef queue n l hm hx hl
    rw [f_Shortage_find_h40]
    unfold f_Shortage_find_h40B
    by_cases c1 : F ≤ x
    · rw [if_pos c1]
      have e : x = F := by omega
      subst e
      exact hk _ _ _ _ hl
    · rw [if_neg c1, hh_bind]
      have hw := hwk12 x
      have ho := (hc_reach R (st := 12 + x) (en := 20 + wk x) (by omega) (by omega) (by omega) queue bef).cl (by omega)
      generalize f_Shortage_canReach queue R bef (12 + x) (20 + wk x) = y at ho ⊢
      rcases ho with ⟨o1, o2⟩ | ⟨o1, o2⟩
      · rw [o1, if_pos (by decide)]
        exact ih (x + 1) _ _ _ _ (by omega) (by omega) (hc_list_skip hl (fun q => o2 ((hc x (by omega)).mp q)))
      · rw [o1, if_neg (by decide)]
        exact ih (x + 1) _ _ _ _ (by omega) (by omega) (hc_list_add hl ((hc x (by omega)).mpr o2))
end HFIND
