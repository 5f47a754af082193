/-! ===== makeFirst(): cell by cell as much as the cells before allow ===== -/
def hf_P (n : Nat) (T : Nat → Nat → Prop) (C G : Nat → Int) (X : Nat → Nat → Int) : Prop := (∀ s c, s < n → c < 9 → 0 ≤ X s c ∧ (0 < X s c → T s c)) ∧ (∀ s, s < n → hrow X 9 s = C s) ∧ ∀ c, c < 9 → hcol X n c = G c
def hf_bef (X Y : Nat → Nat → Int) (s f : Nat) : Prop := (∀ s' c, s' < s → c < 9 → Y s' c = X s' c) ∧ ∀ c, c < f → Y s c = X s c
def hf_lx (n : Nat) (T : Nat → Nat → Prop) (C G : Nat → Int) (X : Nat → Nat → Int) (s f : Nat) : Prop := ∀ Y, hf_P n T C G Y → hf_bef X Y s f → Y s f ≤ X s f
section HFIRST
variable {n : Nat} {T : Nat → Nat → Prop} {C G : Nat → Int} {LP0 LP2 LP3 : Nat → Int64}
theorem hf_raise2 (hn12 : n ≤ 12) (hT : ∀ s c, T s c ↔ ¬ f_Plan_isFree LP0 LP2 LP3 s c = 0) (hC : ∀ s, s < n → C s ≤ 2000000000000) {src fill : Nat} (hsrc : src < n) (hfill : fill < 8) (hG : G fill ≤ 1000000) (hTf : T src fill) {X0 : Nat → Nat → Int} :
    ∀ (m x : Nat) (L : Nat → Int64) (X : Nat → Nat → Int) (q : Nat) (queue : Nat → Nat) (bef : Nat → Int32), 1000000 - x < m → hk_is L X → hf_P n T C G X → hf_bef X0 X src fill → (x : Int) ≤ X src fill →
      ∃ X', hk_is (f_Plan_raise_h2 n LP0 LP2 LP3 src fill f_Plan_raise_x2 m x L q queue bef).1 X' ∧ hf_P n T C G X' ∧ hf_bef X0 X' src fill ∧ hf_lx n T C G X' src fill := by
  intro m
  induction m with
  | zero => exact fun x L X q queue bef h => absurd h (Nat.not_lt_zero _)
  | succ m ih =>
    intro x L X q queue bef hm hL hP hb hx
    rw [f_Plan_raise_h2]
    unfold f_Plan_raise_h2B
    by_cases c : 1000000 ≤ x
    · rw [if_pos c]
      refine ⟨X, hL, hP, hb, fun Y hY hYb => ?_⟩
      have h1 : Y src fill ≤ hcol Y n fill := hs_elem (f := fun s => Y s fill) (fun s hs1 => (hY.1 s fill hs1 (by omega)).1) hsrc
      have h2 := hY.2.2 fill (by omega)
      omega
    · rw [if_neg c, hh_bind]
      have ho := hr_find (T := T) hn12 hsrc hL hT hfill queue bef
      generalize f_Plan_findRing n queue LP0 L LP2 LP3 bef src fill = r at ho ⊢
      rcases ho with ⟨o1, o2, o3, o4⟩ | ⟨c', q', pos, o1, o2, o3, o4, o5, o6⟩
      · rw [o1, if_neg (by decide)]
        refine ⟨X, hL, hP, hb, fun Y hY hYb => ?_⟩
        refine Classical.byContradiction (fun hlt => ?_)
        refine hq_ringcut (n := n) (D := fun s c => Y s c - X s c) (rho := fun c => if r.2.2.2 (12 + c) = -1 then 0 else 1) (sig := fun s => if r.2.2.2 s = -1 then 0 else 1) (s0 := src) (f0 := fill) hsrc (by omega) ?_ ?_ ?_ ?_ ?_ ?_ ?_ ?_ ?_ ?_ ?_
        · intro s hs1
          rw [hs_sub]
          have a : hs (Y s) 9 = C s := hY.2.1 s hs1
          have b : hs (X s) 9 = C s := hP.2.1 s hs1
          show hs (Y s) 9 - hs (X s) 9 = 0
          omega
        · intro c hc
          rw [hs_sub]
          have a := hY.2.2 c hc
          have b := hP.2.2 c hc
          unfold hcol at a b
          omega
        · intro c
          show (if r.2.2.2 (12 + c) = -1 then (0 : Int) else 1) = 0 ∨ (if r.2.2.2 (12 + c) = -1 then (0 : Int) else 1) = 1
          by_cases e : r.2.2.2 (12 + c) = -1
          · rw [if_pos e]; exact Or.inl rfl
          · rw [if_neg e]; exact Or.inr rfl
        · intro s
          show (if r.2.2.2 s = -1 then (0 : Int) else 1) = 0 ∨ (if r.2.2.2 s = -1 then (0 : Int) else 1) = 1
          by_cases e : r.2.2.2 s = -1
          · rw [if_pos e]; exact Or.inl rfl
          · rw [if_neg e]; exact Or.inr rfl
        · intro s c h1 h2
          have := hYb.1 s c h1 h2
          show Y s c - X s c = 0
          omega
        · intro c h1
          have := hYb.2 c h1
          show Y src c - X src c = 0
          omega
        · show 0 < Y src fill - X src fill
          omega
        · show (if r.2.2.2 (12 + fill) = -1 then (0 : Int) else 1) = 1
          rw [if_neg o2]
        · intro c h1 h2 h3
          have h3' : (if r.2.2.2 (12 + c) = -1 then (0 : Int) else 1) = 1 := h3
          have hs1 : ¬ r.2.2.2 (12 + c) = -1 := by
            intro e
            rw [if_pos e] at h3'
            omega
          have a := o4 c h1 h2 hs1
          have b := (hY.1 src c hsrc h1).1
          show 0 ≤ Y src c - X src c
          omega
        · intro s c h1 h2 h3 h4 h5
          have h4' : (if r.2.2.2 (12 + c) = -1 then (0 : Int) else 1) = 1 := h4
          have h5' : (if r.2.2.2 s = -1 then (0 : Int) else 1) = 0 := h5
          have hs1 : ¬ r.2.2.2 (12 + c) = -1 := by
            intro e
            rw [if_pos e] at h4'
            omega
          have hs2 : r.2.2.2 s = -1 := by
            refine Classical.byContradiction (fun e => ?_)
            rw [if_neg e] at h5'
            omega
          have a : ¬ 0 < X s c := by
            intro hp
            exact o3 (12 + c) s (by omega) (by omega) hs1 (Or.inr ⟨by omega, by omega, h1, h2, by rw [show 12 + c - 12 = c by omega]; exact hp⟩) hs2
          have b := (hY.1 s c h2 h3).1
          show 0 ≤ Y s c - X s c
          omega
        · intro s c h1 h2 h3 h4 h5
          have h5' : (if r.2.2.2 (12 + c) = -1 then (0 : Int) else 1) = 0 := h5
          have h4' : (if r.2.2.2 s = -1 then (0 : Int) else 1) = 1 := h4
          have hs1 : r.2.2.2 (12 + c) = -1 := by
            refine Classical.byContradiction (fun e => ?_)
            rw [if_neg e] at h5'
            omega
          have hs2 : ¬ r.2.2.2 s = -1 := by
            intro e
            rw [if_pos e] at h4'
            omega
          have a : ¬ 0 < Y s c := by
            intro hp
            exact o3 s (12 + c) (by omega) (by omega) hs2 (Or.inl ⟨by omega, by omega, by omega, by rw [show 12 + c - 12 = c by omega]; exact (hY.1 s c h2 h3).2 hp⟩) hs1
          have b := (hP.1 s c h2 h3).1
          show Y s c - X s c ≤ 0
          omega
      · rw [o3, if_pos (nI_pos' (show c' < 2 ^ 31 by omega)), nI_clamp (show c' < 2 ^ 31 by omega), hh_bind]
        obtain ⟨k, k1, k2⟩ := hr_chain hn12 hfill o6 (pos (12 + c') + 1) c' (Nat.lt_succ_self _) o1 o5
        have hpos := (o6.1 (12 + c') (by omega) o5).1
        have hq21 : q' ≤ 21 := by
          have := hn_le (fun v => decide (¬ r.2.2.2 v = -1)) 21
          have := o6.2.2.2
          omega
        obtain ⟨mm, Y, m1, m2, m3⟩ := hr_turn hn12 hsrc hfill hL (fun s c h1 h2 => (hP.1 s c h1 h2).1) (fun s c h1 h2 => (hP.1 s c h1 h2).2) (fun s h1 => by rw [hP.2.1 s h1]; exact hC s h1) hTf k2 (by omega) o1 o2 o4
        obtain ⟨t1, t2, t3, t4, t5, t6, t7⟩ := m3
        exact ih (x + 1) _ Y _ _ _ (by omega) m2 ⟨fun s c h1 h2 => ⟨t1 s c h1 h2, t4 s c h1 h2⟩, fun s h1 => by rw [t2 s h1]; exact hP.2.1 s h1, fun c h1 => by rw [t3 c h1]; exact hP.2.2 c h1⟩ ⟨fun s' c h1 h2 => by rw [t5 s' c h1]; exact hb.1 s' c h1 h2, fun c h1 => by rw [t6 c h1]; exact hb.2 c h1⟩ (by omega)
/-- all cells up to (s, f) are as great as they can be -/
def hf_lxs (n F : Nat) (T : Nat → Nat → Prop) (C G : Nat → Int) (X : Nat → Nat → Int) (s f : Nat) : Prop := ∀ s' f', s' < n → f' < F → (s' < s ∨ (s' = s ∧ f' < f)) → hf_lx n T C G X s' f'
theorem hf_lxs_keep {F : Nat} (hF : F ≤ 8) {X X' : Nat → Nat → Int} {s f : Nat} (hfF : f ≤ F) (h : hf_lxs n F T C G X s f) (hb : hf_bef X X' s f) : hf_lxs n F T C G X' s f := by
  intro s' f' h1 h2 h3 Y hY hYb
  have k := h s' f' h1 h2 h3 Y hY ⟨fun s'' c a1 a2 => ?_, fun c a1 => ?_⟩
  · have e : X' s' f' = X s' f' := by
      rcases h3 with q | ⟨rfl, q⟩
      · exact hb.1 s' f' q (by omega)
      · exact hb.2 f' q
    omega
  · rw [hYb.1 s'' c a1 a2]
    exact hb.1 s'' c (by omega) a2
  · rw [hYb.2 c a1]
    rcases h3 with q | ⟨rfl, q⟩
    · exact hb.1 s' c q (by omega)
    · exact hb.2 c (by omega)
theorem hf_12 (hn12 : n ≤ 12) (hT : ∀ s c, T s c ↔ ¬ f_Plan_isFree LP0 LP2 LP3 s c = 0) (hC : ∀ s, s < n → C s ≤ 2000000000000) {F : Nat} (hF : F ≤ 8) (hG : ∀ f, f < F → G f ≤ 1000000) {src : Nat} (hsrc : src < n) {Post : (Nat → Int64) × Nat × (Nat → Nat) × (Nat → Int32) → Prop} {k : Nat → (Nat → Int64) → Nat → (Nat → Nat) → (Nat → Int32) → (Nat → Int64) × Nat × (Nat → Nat) × (Nat → Int32)}
    (hk : ∀ x L X q queue bef, hk_is L X → hf_P n T C G X → hf_lxs n F T C G X (src + 1) 0 → Post (k x L q queue bef)) :
    ∀ (m x : Nat) (L : Nat → Int64) (X : Nat → Nat → Int) (q : Nat) (queue : Nat → Nat) (bef : Nat → Int32), F - x < m → x ≤ F → hk_is L X → hf_P n T C G X → hf_lxs n F T C G X src x → Post (f_Plan_makeFirst_h12 F LP0 LP2 LP3 src n k m x L q queue bef) := by
  intro m
  induction m with
  | zero => exact fun x L X q queue bef h => absurd h (Nat.not_lt_zero _)
  | succ m ih =>
    intro x L X q queue bef hm hx hL hP hl
    rw [f_Plan_makeFirst_h12]
    unfold f_Plan_makeFirst_h12B
    by_cases c : F ≤ x
    · rw [if_pos c]
      exact hk _ _ X _ _ _ hL hP (fun s' f' h1 h2 h3 => hl s' f' h1 h2 (by omega))
    · rw [if_neg c, hh_bind]
      have step : ∀ X', hf_bef X X' src x → hf_lx n T C G X' src x → hf_lxs n F T C G X' src (x + 1) := by
        intro X' hb hlx s' f' h1 h2 h3
        by_cases e : s' = src ∧ f' = x
        · obtain ⟨rfl, rfl⟩ := e; exact hlx
        · exact hf_lxs_keep hF (by omega) hl hb s' f' h1 h2 (by omega)
      by_cases e : f_Plan_isFree LP0 LP2 LP3 src x = 0
      · rw [if_pos e]
        refine ih (x + 1) _ X _ _ _ (by omega) (by omega) hL hP (step X ⟨fun _ _ _ _ => rfl, fun _ _ => rfl⟩ (fun Y hY _ => ?_))
        have a := hY.1 src x hsrc (by omega)
        have b := (hP.1 src x hsrc (by omega)).1
        have : ¬ 0 < Y src x := fun hp => (hT src x).mp (a.2 hp) e
        omega
      · rw [if_neg e, hh_bind]
        obtain ⟨X', r1, r2, r3, r4⟩ := hf_raise2 hn12 hT hC hsrc (show x < 8 by omega) (hG x (by omega)) ((hT src x).mpr e) (X0 := X) 1000001 0 L X q queue bef (by omega) hL hP ⟨fun _ _ _ _ => rfl, fun _ _ => rfl⟩ (by have := (hP.1 src x hsrc (by omega)).1; omega)
        exact ih (x + 1) _ X' _ _ _ (by omega) (by omega) r1 r2 (step X' r3 r4)
theorem hf_2 (hn12 : n ≤ 12) (hT : ∀ s c, T s c ↔ ¬ f_Plan_isFree LP0 LP2 LP3 s c = 0) (hC : ∀ s, s < n → C s ≤ 2000000000000) {F : Nat} (hF : F ≤ 8) (hG : ∀ f, f < F → G f ≤ 1000000) :
    ∀ (m x : Nat) (L : Nat → Int64) (X : Nat → Nat → Int) (q : Nat) (queue : Nat → Nat) (bef : Nat → Int32), n - x < m → x ≤ n → hk_is L X → hf_P n T C G X → hf_lxs n F T C G X x 0 →
      ∃ X', hk_is (f_Plan_makeFirst_h2 n F LP0 LP2 LP3 f_Plan_makeFirst_x2 m x L q queue bef).1 X' ∧ hf_P n T C G X' ∧ hf_lxs n F T C G X' n 0 := by
  intro m
  induction m with
  | zero => exact fun x L X q queue bef h => absurd h (Nat.not_lt_zero _)
  | succ m ih =>
    intro x L X q queue bef hm hx hL hP hl
    rw [f_Plan_makeFirst_h2]
    unfold f_Plan_makeFirst_h2B
    by_cases c : n ≤ x
    · rw [if_pos c]
      have e : x = n := by omega
      subst e
      exact ⟨X, hL, hP, hl⟩
    · rw [if_neg c]
      refine hf_12 (Post := fun r => ∃ X', hk_is r.1 X' ∧ hf_P n T C G X' ∧ hf_lxs n F T C G X' n 0) hn12 hT hC hF hG (by omega) (fun x' L' X' q' queue' bef' a1 a2 a3 => ?_) 9 0 L X q queue bef (by omega) (Nat.zero_le _) hL hP hl
      unfold f_Plan_makeFirst_x12
      exact ih (x + 1) _ X' _ _ _ (by omega) (by omega) a1 a2 a3
/-- makeFirst() makes the first plan of all that use free cells alone -/
theorem hf_first (hn12 : n ≤ 12) (hT : ∀ s c, T s c ↔ ¬ f_Plan_isFree LP0 LP2 LP3 s c = 0) (hC : ∀ s, s < n → C s ≤ 2000000000000) {F : Nat} (hF : F ≤ 8) (hG : ∀ f, f < F → G f ≤ 1000000) {L : Nat → Int64} {X : Nat → Nat → Int} (hL : hk_is L X) (hP : hf_P n T C G X) (q : Nat) (queue : Nat → Nat) (bef : Nat → Int32) :
    ∃ X', hk_is (f_Plan_makeFirst n F q queue LP0 L LP2 LP3 bef).1 X' ∧ hf_P n T C G X' ∧ ∀ s f, s < n → f < F → hf_lx n T C G X' s f := by
  obtain ⟨X', a1, a2, a3⟩ := hf_2 hn12 hT hC hF hG 13 0 L X q queue bef (by omega) (Nat.zero_le _) hL hP (fun s' f' _ _ h => by omega)
  exact ⟨X', a1, a2, fun s f h1 h2 => a3 s f h1 h2 (by omega)⟩
end HFIRST
