/-! ===== makeCheapest() ===== -/
section HMAKE
variable {n F : Nat}
theorem hk_make7 {y2 : Nat × Nat × (Nat → Int64) × (Nat → Int64) × (Nat → Int64) × (Nat → Int64)} (h1 : y2.1 ≤ 12) (h2 : y2.2.1 ≤ 8) {C : Nat → Int} (hC : ∀ s, s < y2.1 → C s ≤ 2000000000000) {LS4 : Nat → Int64} (hw : ∀ f, f < y2.2.1 → 0 ≤ (LS4 f).toInt ∧ (LS4 f).toInt ≤ 1000000) :
    ∀ (m x : Nat) (L1 L2 L3 key : Nat → Int64) (done bef : Nat → Int32), y2.2.1 - x < m → x ≤ y2.2.1 → hk_S y2.1 y2.2.1 y2.2.2.1 C (fun f => if f < x then (LS4 f).toInt else 0) L1 L2 L3 → hk_Z y2.1 y2.2.1 L1 L3 →
      ∃ r, f_Plan_makeCheapest_h7 y2 LS4 (f_Plan_makeCheapest_x7 y2) m x L1 L2 L3 key done bef = r ∧ r.2.1 = y2.1 ∧ r.2.2.1 = y2.2.1 ∧ r.2.2.2.1 = y2.2.2.1 ∧
        ((r.1 = nI 1 ∧ hk_S y2.1 y2.2.1 y2.2.2.1 C (fun f => (LS4 f).toInt) r.2.2.2.2.1 r.2.2.2.2.2.1 r.2.2.2.2.2.2.1 ∧ hk_Z y2.1 y2.2.1 r.2.2.2.2.1 r.2.2.2.2.2.2.1) ∨ (r.1 = nI 0 ∧ hk_noFull y2.1 y2.2.1 y2.2.2.1 C (fun f => (LS4 f).toInt))) := by
  intro m
  induction m with
  | zero => exact fun x L1 L2 L3 key done bef h => absurd h (Nat.not_lt_zero _)
  | succ m ih =>
    intro x L1 L2 L3 key done bef hm hx hS hz
    rw [f_Plan_makeCheapest_h7]
    unfold f_Plan_makeCheapest_h7B
    by_cases c : y2.2.1 ≤ x
    · rw [if_pos c]
      have e : x = y2.2.1 := by omega
      refine ⟨_, rfl, rfl, rfl, rfl, Or.inl ⟨rfl, ⟨hS.1, hS.2.1, fun f hf => ?_⟩, hz⟩⟩
      have this : hcol (hk_X L1) y2.1 f = if f < x then (LS4 f).toInt else 0 := hS.2.2 f hf
      rw [if_pos (by omega)] at this
      exact this
    · rw [if_neg c, hh_bind]
      have hwx := hw x (by omega)
      have k := hk_serve13 (LP0 := y2.2.2.1) h1 h2 hC (want := fun f => (LS4 f).toInt) (fun f hf => (hw f hf).1) (x1 := x) (by omega) 1000001 0 (LS4 x) L1 L2 L3 key done bef (by omega) (by omega) hwx.1 ⟨hS.1, hS.2.1, fun f hf => by
        rw [hS.2.2 f hf]
        unfold hk_G
        show (if f < x then (LS4 f).toInt else 0) = if f < x then (LS4 f).toInt else if f = x then (LS4 x).toInt - (LS4 x).toInt else 0
        by_cases q1 : f < x
        · rw [if_pos q1, if_pos q1]
        · rw [if_neg q1, if_neg q1]
          by_cases q2 : f = x
          · rw [if_pos q2]; omega
          · rw [if_neg q2]⟩ hz
      have ek : f_Plan_serve y2.1 y2.2.1 y2.2.2.1 L1 L2 L3 key done bef LS4 x = f_Plan_serve_h13 y2.1 y2.2.1 y2.2.2.1 x f_Plan_serve_x13 1000001 (LS4 x) 0 L1 L2 L3 key done bef := rfl
      rw [← ek] at k
      generalize f_Plan_serve y2.1 y2.2.1 y2.2.2.1 L1 L2 L3 key done bef LS4 x = y at k ⊢
      rcases k with ⟨k1, k2, k3⟩ | ⟨k1, k2⟩
      · rw [k1, if_neg (show ¬ nI 1 = 0 by decide)]
        refine ih (x + 1) _ _ _ _ _ _ (by omega) (by omega) ⟨k2.1, k2.2.1, fun f hf => ?_⟩ k3
        rw [k2.2.2 f hf]
        unfold hk_G
        show (if f < x then (LS4 f).toInt else if f = x then (LS4 x).toInt - 0 else 0) = if f < x + 1 then (LS4 f).toInt else 0
        by_cases q1 : f < x
        · rw [if_pos q1, if_pos (by omega)]
        · rw [if_neg q1]
          by_cases q2 : f = x
          · rw [if_pos q2, if_pos (by omega), q2]; omega
          · rw [if_neg q2, if_neg (by omega)]
      · rw [k1, if_pos (show nI 0 = 0 by decide)]
        exact ⟨_, rfl, rfl, rfl, rfl, Or.inr ⟨rfl, k2⟩⟩
end HMAKE
/-! ===== clear() ===== -/
section HCLEAR
variable {VS0 VS1 VS2 : Nat} {NS0 NS1 NS2 : Nat → Nat} {LS0 LS1 LS2 LS3 LS5 LS6 LS7 : Nat → Int64} {IS0 : Nat → Int32} {VY0 : Nat} {LY0 LY1 LY2 : Nat → Int64} {IY0 : Nat → Int32} {x1 : Int32}
abbrev hk_sv (VS0 : Nat) (NS0 NS1 NS2 : Nat → Nat) (IS0 : Nat → Int32) (s f : Nat) : Int32 := f_Site_serves VS0 NS0 NS1 NS2 IS0 s f
abbrev hk_un (VS0 : Nat) (NS2 : Nat → Nat) (LS1 LS2 LS3 LS5 : Nat → Int64) (VY0 : Nat) (LY0 LY1 LY2 : Nat → Int64) (IY0 : Nat → Int32) (x1 : Int32) (s f : Nat) : Int64 := f_Site_unitPrice VS0 NS2 LS1 LS2 LS3 LS5 VY0 LY0 LY1 LY2 IY0 s f x1
abbrev hk_cp (VS0 : Nat) (NS0 : Nat → Nat) (LS0 LS6 LS7 : Nat → Int64) (s : Nat) : Int64 := f_Site_capacity VS0 NS0 LS0 LS6 LS7 s
/-- units up to the cell (S, x) -/
def hk_U (F : Nat) (sv : Nat → Nat → Int32) (un : Nat → Nat → Int64) (S x : Nat) (L : Nat → Int64) : Prop := ∀ s f, s < 12 → f < 8 → L (s * 9 + f) = if (s < S ∨ (s = S ∧ f < x)) ∧ f < F ∧ ¬ sv s f = 0 then un s f else -1
theorem hk_101 (hF : VS2 ≤ 8) {S : Nat} (hS : S < 12) {Post : Nat × Nat × (Nat → Int64) × (Nat → Int64) × (Nat → Int64) × (Nat → Int64) → Prop} {k : Nat → (Nat → Int64) → Nat × Nat × (Nat → Int64) × (Nat → Int64) × (Nat → Int64) × (Nat → Int64)}
    {g : Nat → Int64} (hk : ∀ x L, hk_U VS2 (hk_sv VS0 NS0 NS1 NS2 IS0) (hk_un VS0 NS2 LS1 LS2 LS3 LS5 VY0 LY0 LY1 LY2 IY0 x1) (S + 1) 0 L → (∀ s, L (s * 9 + 8) = g s) → Post (k x L)) :
    ∀ (m x : Nat) (L : Nat → Int64), VS2 - x < m → (∀ s, L (s * 9 + 8) = g s) → hk_U VS2 (hk_sv VS0 NS0 NS1 NS2 IS0) (hk_un VS0 NS2 LS1 LS2 LS3 LS5 VY0 LY0 LY1 LY2 IY0 x1) S x L → Post (f_Plan_clear_h101 VS2 VS0 NS0 NS1 NS2 IS0 S LS1 LS2 LS3 LS5 VY0 LY0 LY1 LY2 IY0 x1 k m x L) := by
  intro m
  induction m with
  | zero => exact fun x L h => absurd h (Nat.not_lt_zero _)
  | succ m ih =>
    intro x L hm hg hU
    rw [f_Plan_clear_h101]
    unfold f_Plan_clear_h101B
    by_cases c : VS2 ≤ x
    · rw [if_pos c]
      refine hk _ _ (fun s f h1 h2 => ?_) hg
      rw [hU s f h1 h2]
      by_cases q : (s < S ∨ (s = S ∧ f < x)) ∧ f < VS2 ∧ ¬ hk_sv VS0 NS0 NS1 NS2 IS0 s f = 0
      · rw [if_pos q, if_pos ⟨by omega, q.2⟩]
      · rw [if_neg q, if_neg (fun z => q ⟨by omega, z.2⟩)]
    · rw [if_neg c, hh_bind]
      by_cases e : f_Site_serves VS0 NS0 NS1 NS2 IS0 S x = 0
      · rw [if_pos e]
        refine ih (x + 1) _ (by omega) hg (fun s f h1 h2 => ?_)
        rw [hU s f h1 h2]
        by_cases q : (s < S ∨ (s = S ∧ f < x)) ∧ f < VS2 ∧ ¬ hk_sv VS0 NS0 NS1 NS2 IS0 s f = 0
        · rw [if_pos q, if_pos ⟨by omega, q.2⟩]
        · rw [if_neg q]
          by_cases q2 : (s < S ∨ (s = S ∧ f < x + 1)) ∧ f < VS2 ∧ ¬ hk_sv VS0 NS0 NS1 NS2 IS0 s f = 0
          · exfalso
            obtain ⟨p1, p2, p3⟩ := q2
            by_cases z : s = S ∧ f = x
            · obtain ⟨rfl, rfl⟩ := z
              exact p3 e
            · exact q ⟨by omega, p2, p3⟩
          · rw [if_neg q2]
      · rw [if_neg e, hh_bind]
        refine ih (x + 1) _ (by omega) (fun s => by rw [hp_updLn _ _ (by omega)]; exact hg s) (fun s f h1 h2 => ?_)
        by_cases z : s = S ∧ f = x
        · obtain ⟨rfl, rfl⟩ := z
          rw [hp_updL, if_pos ⟨by omega, by omega, e⟩]
        · rw [hp_updLn _ _ (by omega), hU s f h1 h2]
          by_cases q : (s < S ∨ (s = S ∧ f < x)) ∧ f < VS2 ∧ ¬ hk_sv VS0 NS0 NS1 NS2 IS0 s f = 0
          · rw [if_pos q, if_pos ⟨by omega, q.2⟩]
          · rw [if_neg q, if_neg (fun w => q ⟨by omega, w.2⟩)]
theorem hk_58 (hF : VS2 ≤ 8) {y5 : Nat} (hn12 : y5 ≤ 12) {Post : Nat × Nat × (Nat → Int64) × (Nat → Int64) × (Nat → Int64) × (Nat → Int64) → Prop} {k : Nat → (Nat → Int64) → (Nat → Int64) → Nat × Nat × (Nat → Int64) × (Nat → Int64) × (Nat → Int64) × (Nat → Int64)}
    (hk : ∀ x L0 L1, hk_U VS2 (hk_sv VS0 NS0 NS1 NS2 IS0) (hk_un VS0 NS2 LS1 LS2 LS3 LS5 VY0 LY0 LY1 LY2 IY0 x1) y5 0 L0 → (∀ s, s < y5 → L0 (s * 9 + 8) = 0) → (∀ s c, s < 12 → c < 9 → L1 (s * 9 + c) = if s < y5 ∧ c = 8 then hk_cp VS0 NS0 LS0 LS6 LS7 s else 0) → Post (k x L0 L1)) :
    ∀ (m x : Nat) (L0 L1 : Nat → Int64), y5 - x < m → x ≤ y5 → hk_U VS2 (hk_sv VS0 NS0 NS1 NS2 IS0) (hk_un VS0 NS2 LS1 LS2 LS3 LS5 VY0 LY0 LY1 LY2 IY0 x1) x 0 L0 → (∀ s, s < x → L0 (s * 9 + 8) = 0) → (∀ s c, s < 12 → c < 9 → L1 (s * 9 + c) = if s < x ∧ c = 8 then hk_cp VS0 NS0 LS0 LS6 LS7 s else 0) → Post (f_Plan_clear_h58 y5 VS0 NS0 LS0 LS6 LS7 VS2 NS1 NS2 IS0 LS1 LS2 LS3 LS5 VY0 LY0 LY1 LY2 IY0 x1 k m x L0 L1) := by
  intro m
  induction m with
  | zero => exact fun x L0 L1 h => absurd h (Nat.not_lt_zero _)
  | succ m ih =>
    intro x L0 L1 hm hx hU hI hL
    rw [f_Plan_clear_h58]
    unfold f_Plan_clear_h58B
    by_cases c : y5 ≤ x
    · rw [if_pos c]
      have e : x = y5 := by omega
      subst e
      exact hk _ _ _ hU hI hL
    · rw [if_neg c, hh_bind]
      refine hk_101 hF (by omega) (g := fun s => if s = x then 0 else L0 (s * 9 + 8)) (fun x' L hU' hg' => ?_) 9 0 _ (by omega) (fun s => by
        by_cases q : s = x
        · rw [if_pos q, q, hp_updL]
        · rw [if_neg q, hp_updLn _ _ (by omega)]) (fun s f h1 h2 => by rw [hp_updLn _ _ (by omega)]; exact hU s f h1 h2)
      unfold f_Plan_clear_x101
      refine ih (x + 1) _ _ (by omega) (by omega) hU' (fun s h1 => by
        rw [hg' s]
        by_cases q : s = x
        · rw [if_pos q]
        · rw [if_neg q]; exact hI s (by omega)) (fun s c' h1 h2 => ?_)
      by_cases z : s = x ∧ c' = 8
      · obtain ⟨rfl, rfl⟩ := z
        rw [hp_updL, if_pos ⟨by omega, rfl⟩]
      · rw [hp_updLn _ _ (by omega), hL s c' h1 h2]
        by_cases q : s < x ∧ c' = 8
        · rw [if_pos q, if_pos ⟨by omega, q.2⟩]
        · rw [if_neg q, if_neg (by omega)]
theorem hk_clear (hF : VS2 ≤ 8) (hn12 : VS0 + VS1 ≤ 12) (LP0 LP1 LP2 LP3 : Nat → Int64) : ∃ y2, f_Plan_clear LP0 LP1 LP2 LP3 VS0 VS1 VS2 NS0 NS1 NS2 LS0 LS1 LS2 LS3 LS5 LS6 LS7 IS0 VY0 LY0 LY1 LY2 IY0 x1 = y2 ∧ y2.1 = VS0 + VS1 ∧ y2.2.1 = VS2 ∧
    hk_U VS2 (hk_sv VS0 NS0 NS1 NS2 IS0) (hk_un VS0 NS2 LS1 LS2 LS3 LS5 VY0 LY0 LY1 LY2 IY0 x1) (VS0 + VS1) 0 y2.2.2.1 ∧ (∀ s, s < VS0 + VS1 → y2.2.2.1 (s * 9 + 8) = 0) ∧ (∀ s c, s < 12 → c < 9 → y2.2.2.2.1 (s * 9 + c) = if s < VS0 + VS1 ∧ c = 8 then hk_cp VS0 NS0 LS0 LS6 LS7 s else 0) ∧ (∀ s, s < 12 → y2.2.2.2.2.1 s = 0) ∧ ∀ f, f < 9 → y2.2.2.2.2.2 f = 0 := by
  unfold f_Plan_clear
  rw [hh_bind]
  refine hk_58 (Post := fun r => ∃ y2, r = y2 ∧ y2.1 = VS0 + VS1 ∧ y2.2.1 = VS2 ∧ hk_U VS2 (hk_sv VS0 NS0 NS1 NS2 IS0) (hk_un VS0 NS2 LS1 LS2 LS3 LS5 VY0 LY0 LY1 LY2 IY0 x1) (VS0 + VS1) 0 y2.2.2.1 ∧ (∀ s, s < VS0 + VS1 → y2.2.2.1 (s * 9 + 8) = 0) ∧ (∀ s c, s < 12 → c < 9 → y2.2.2.2.1 (s * 9 + c) = if s < VS0 + VS1 ∧ c = 8 then hk_cp VS0 NS0 LS0 LS6 LS7 s else 0) ∧ (∀ s, s < 12 → y2.2.2.2.2.1 s = 0) ∧ ∀ f, f < 9 → y2.2.2.2.2.2 f = 0) hF (y5 := f_Site_sources VS0 VS1) hn12 (fun x L0 L1 h1 h8 h2 => ?_) 13 0 _ _ (by have : f_Site_sources VS0 VS1 = VS0 + VS1 := rfl; omega) (Nat.zero_le _) (fun s f h1 h2 => ?_) (fun s h => absurd h (Nat.not_lt_zero _)) (fun s c h1 h2 => ?_)
  · unfold f_Plan_clear_x58
    exact ⟨_, rfl, rfl, rfl, h1, h8, h2, fun s h => by show hh_fillJ 12 LP2 0 s = 0; unfold hh_fillJ; rw [if_pos h], fun f h => by show hh_fillJ 9 LP3 0 f = 0; unfold hh_fillJ; rw [if_pos h]⟩
  · unfold hh_fillJ
    rw [if_pos (by omega), if_neg (by omega)]
  · unfold hh_fillJ
    rw [if_pos (by omega), if_neg (by omega)]
/-- makeCheapest(): a full plan that is proved cheapest; or there is none -/
theorem hk_make (hF : VS2 ≤ 8) (hn12 : VS0 + VS1 ≤ 12) {LS4 : Nat → Int64} (hw : ∀ f, f < VS2 → 0 ≤ (LS4 f).toInt ∧ (LS4 f).toInt ≤ 1000000) (hcap : ∀ s, s < VS0 + VS1 → 0 ≤ (hk_cp VS0 NS0 LS0 LS6 LS7 s).toInt ∧ (hk_cp VS0 NS0 LS0 LS6 LS7 s).toInt ≤ 2000000000000)
    (hun : ∀ s f, s < VS0 + VS1 → f < VS2 → 0 ≤ (hk_un VS0 NS2 LS1 LS2 LS3 LS5 VY0 LY0 LY1 LY2 IY0 x1 s f).toInt ∧ (hk_un VS0 NS2 LS1 LS2 LS3 LS5 VY0 LY0 LY1 LY2 IY0 x1 s f).toInt ≤ 200000) (LP0 LP1 LP2 LP3 LP4 : Nat → Int64) (IP0 IP1 : Nat → Int32) :
    ∃ r, f_Plan_makeCheapest LP0 LP1 LP2 LP3 LP4 IP0 IP1 VS0 VS1 VS2 NS0 NS1 NS2 LS0 LS1 LS2 LS3 LS4 LS5 LS6 LS7 IS0 VY0 LY0 LY1 LY2 IY0 x1 = r ∧ r.2.1 = VS0 + VS1 ∧ r.2.2.1 = VS2 ∧ hk_U VS2 (hk_sv VS0 NS0 NS1 NS2 IS0) (hk_un VS0 NS2 LS1 LS2 LS3 LS5 VY0 LY0 LY1 LY2 IY0 x1) (VS0 + VS1) 0 r.2.2.2.1 ∧ (∀ s, s < VS0 + VS1 → r.2.2.2.1 (s * 9 + 8) = 0) ∧
      ((r.1 = nI 1 ∧ hk_S (VS0 + VS1) VS2 r.2.2.2.1 (fun s => (hk_cp VS0 NS0 LS0 LS6 LS7 s).toInt) (fun f => (LS4 f).toInt) r.2.2.2.2.1 r.2.2.2.2.2.1 r.2.2.2.2.2.2.1 ∧ hk_Z (VS0 + VS1) VS2 r.2.2.2.2.1 r.2.2.2.2.2.2.1) ∨ (r.1 = nI 0 ∧ hk_noFull (VS0 + VS1) VS2 r.2.2.2.1 (fun s => (hk_cp VS0 NS0 LS0 LS6 LS7 s).toInt) (fun f => (LS4 f).toInt))) := by
  obtain ⟨y2, e0, e1, e2, e3, e8, e4, e5, e6⟩ := hk_clear (VS0 := VS0) (VS1 := VS1) (NS0 := NS0) (NS1 := NS1) (NS2 := NS2) (LS0 := LS0) (LS1 := LS1) (LS2 := LS2) (LS3 := LS3) (LS5 := LS5) (LS6 := LS6) (LS7 := LS7) (IS0 := IS0) (VY0 := VY0) (LY0 := LY0) (LY1 := LY1) (LY2 := LY2) (IY0 := IY0) (x1 := x1) hF hn12 LP0 LP1 LP2 LP3
  unfold f_Plan_makeCheapest
  rw [e0, hh_bind]
  have ex : ∀ s c, s < VS0 + VS1 → c < 9 → hk_X y2.2.2.2.1 s c = if c = 8 then (hk_cp VS0 NS0 LS0 LS6 LS7 s).toInt else 0 := by
    intro s c h1 h2
    unfold hk_X
    rw [e4 s c (by omega) h2]
    by_cases q : c = 8
    · rw [if_pos ⟨h1, q⟩, if_pos q]
    · rw [if_neg (fun z => q z.2), if_neg q, h64_0]
  have hD0 : hk_D y2.1 y2.2.1 y2.2.2.1 y2.2.2.2.1 y2.2.2.2.2.1 y2.2.2.2.2.2 := by
    rw [e1, e2]
    refine ⟨fun s f h1 h2 => ?_, fun s h1 => ?_, fun f h1 => ?_⟩
    · rw [ex s f h1 (by omega), if_neg (by omega), e3 s f (by omega) (by omega), e5 s (by omega), e6 f (by omega), h64_0]
      by_cases q : (s < VS0 + VS1 ∨ (s = VS0 + VS1 ∧ f < 0)) ∧ f < VS2 ∧ ¬ hk_sv VS0 NS0 NS1 NS2 IS0 s f = 0
      · rw [if_pos q]
        have u := hun s f h1 h2
        refine Or.inr ⟨fun z => ?_, u.1, u.2, by omega, by omega, by omega⟩
        rw [z, hk_m1] at u
        omega
      · rw [if_neg q]
        exact Or.inl ⟨rfl, rfl⟩
    · rw [ex s 8 h1 (by omega), if_pos rfl, e5 s (by omega), h64_0]
      exact ⟨(hcap s h1).1, by omega, by omega, fun _ => rfl⟩
    · rw [e6 f (by omega), h64_0]
      omega
  have hT0 : ∀ s, s < y2.1 → hk_tot (hk_X y2.2.2.2.1) y2.2.1 s = (hk_cp VS0 NS0 LS0 LS6 LS7 s).toInt := by
    intro s h
    unfold hk_tot
    rw [ex s 8 (by omega) (by omega), if_pos rfl]
    have : hrow (hk_X y2.2.2.2.1) y2.2.1 s = 0 := hs_zero (fun f hf => by
      show hk_X y2.2.2.2.1 s f = 0
      rw [ex s f (by omega) (by omega), if_neg (by omega)])
    omega
  have hG0 : ∀ f, f < y2.2.1 → hcol (hk_X y2.2.2.2.1) y2.1 f = if f < 0 then (LS4 f).toInt else 0 := by
    intro f h
    rw [if_neg (by omega)]
    exact hs_zero (fun s hs1 => by
      show hk_X y2.2.2.2.1 s f = 0
      rw [ex s f (by omega) (by omega), if_neg (by omega)])
  obtain ⟨r, r0, r1, r2, r3, r4⟩ := hk_make7 (y2 := y2) (by omega) (by omega) (C := fun s => (hk_cp VS0 NS0 LS0 LS6 LS7 s).toInt) (fun s h => (hcap s (by omega)).2) (LS4 := LS4) (fun f h => hw f (by omega)) 9 0 y2.2.2.2.1 y2.2.2.2.2.1 y2.2.2.2.2.2 LP4 IP0 IP1 (by omega) (Nat.zero_le _) ⟨hD0, hT0, hG0⟩ ⟨fun s c h1 h2 h3 => by rw [ex s c (by omega) (by omega), if_neg (by omega)], e6 8 (by omega)⟩
  refine ⟨r, r0, by omega, by omega, by rw [r3]; exact e3, by rw [r3]; exact e8, ?_⟩
  rw [r3, ← e1, ← e2]
  exact r4
end HCLEAR
