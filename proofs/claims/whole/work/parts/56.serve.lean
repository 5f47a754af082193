/-! ===== the path that a search found; serve() ===== -/
def hk_T (LP0 L2 L3 : Nat → Int64) (s f : Nat) : Prop := ¬ LP0 (s * 9 + f) = -1 ∧ (L3 f).toInt = (LP0 (s * 9 + f)).toInt + (L2 s).toInt
def hk_dep (key : Nat → Int64) (v : Nat) : Nat := ((key v).toInt % 32).toNat
section HSERVE
variable {n F : Nat} {LP0 LP1 LP2 LP3 : Nat → Int64}
/-- one step back: a fill, and (unless the search began there) a source that serves it -/
theorem hk_up2 (hn12 : n ≤ 12) (hF : F ≤ 8) (hD : hk_D n F LP0 LP1 LP2 LP3) {st j t : Nat} {done : Nat → Int32} {key : Nat → Int64} {bef : Nat → Int32} (h : hk_end n F LP0 LP1 LP2 LP3 st j t done key bef) {L2 L3 : Nat → Int64} (hr : hk_rd n F ((key j).toInt / 32) key LP2 LP3 L2 L3)
    {s : Nat} (hs1 : s < n) (hrs : hk_rch key s) (hle : (key s).toInt ≤ (key j).toInt) (hne : s ≠ st) :
    ∃ f0, f0 < F ∧ bef s = nI (12 + f0) ∧ hk_T LP0 L2 L3 s f0 ∧ hk_dep key s = hk_dep key (12 + f0) + 1 ∧ (12 + f0 = st ∨ ∃ s0, s0 < n ∧ bef (12 + f0) = nI s0 ∧ 0 < hk_X LP1 s0 f0 ∧ hk_dep key (12 + f0) = hk_dep key s0 + 1 ∧ hk_rch key s0 ∧ (key s0).toInt ≤ (key j).toInt) := by
  have hJ := h.2.2.2.1
  rcases hJ.2.2.1 s (by omega) hrs with q | ⟨a, a1, a2, a3, a4, a5⟩
  · exact absurd q hne
  · obtain ⟨t1, t2, t3, t4, t5⟩ := hk_tight hn12 hF hD h hr hs1 hle a3 a2 a5
    have ar := hJ.2.2.2.2.2.1 a a1 a2
    have ea : 12 + (a - 12) = a := by omega
    have oka := hJ.2.1 a a1 ar
    unfold hk_ok at oka
    have als := hk_arc_len hn12 hF hD a3
    have hke : hk_dep key s = hk_dep key a + 1 := by unfold hk_dep; omega
    refine ⟨a - 12, by omega, by rw [ea]; exact a4, ⟨t3, t4⟩, by rw [ea]; exact hke, ?_⟩
    rw [ea]
    rcases hJ.2.2.1 a a1 ar with q | ⟨b, b1, b2, b3, b4, b5⟩
    · exact Or.inl q
    · have br := hJ.2.2.2.2.2.1 b b1 b2
      have okb := hJ.2.1 b b1 br
      unfold hk_ok at okb
      have alb := hk_arc_len hn12 hF hD b3
      have ht := h.2.2.1
      rcases b3 with ⟨q1, q2, q3, q4⟩ | ⟨q1, q2, q3, q4⟩
      · refine Or.inr ⟨b, q1, b4, q4, ?_, br, by omega⟩
        have el : hk_len LP0 LP2 LP3 b a = 0 := by unfold hk_len; rw [if_pos (by omega)]
        unfold hk_dep
        rw [el] at b5
        omega
      · omega
theorem hk_chain (hn12 : n ≤ 12) (hF : F ≤ 8) (hD : hk_D n F LP0 LP1 LP2 LP3) {x1 j t : Nat} {done : Nat → Int32} {key : Nat → Int64} {bef : Nat → Int32} (h : hk_end n F LP0 LP1 LP2 LP3 (12 + x1) j t done key bef) {L2 L3 : Nat → Int64} (hr : hk_rd n F ((key j).toInt / 32) key LP2 LP3 L2 L3) :
    ∀ (N s : Nat), hk_dep key s < N → s < n → hk_rch key s → (key s).toInt ≤ (key j).toInt → ∃ k, 2 * k + 1 = hk_dep key s ∧ hb_ch n F bef (hk_X LP1) (hk_T LP0 L2 L3) (hk_dep key) x1 1 k s := by
  intro N
  induction N with
  | zero => exact fun s h => absurd h (Nat.not_lt_zero _)
  | succ N ih =>
    intro s hN hs1 hrs hle
    obtain ⟨f0, f1, f2, f3, f4, f5⟩ := hk_up2 hn12 hF hD h hr hs1 hrs hle (by omega)
    by_cases c : 12 + f0 = 12 + x1
    · have e : f0 = x1 := by omega
      subst e
      have e0 : hk_dep key (12 + f0) = 0 := by
        unfold hk_dep
        rw [h.2.2.2.1.1]
        rfl
      exact ⟨0, by omega, hs1, by omega, f2, f3⟩
    · rcases f5 with q | ⟨s0, g1, g2, g3, g4, g5, g6⟩
      · exact absurd q c
      · obtain ⟨k, k1, k2⟩ := ih s0 (by omega) g1 g5 g6
        exact ⟨k + 1, by omega, hs1, by omega, f0, s0, f1, by omega, f2, f3, g2, by omega, by omega, k2⟩
theorem hk_chain2 (hn12 : n ≤ 12) (hF : F ≤ 8) (hD : hk_D n F LP0 LP1 LP2 LP3) {st j t : Nat} (hst : st < n) {done : Nat → Int32} {key : Nat → Int64} {bef : Nat → Int32} (h : hk_end n F LP0 LP1 LP2 LP3 st j t done key bef) {L2 L3 : Nat → Int64} (hr : hk_rd n F ((key j).toInt / 32) key LP2 LP3 L2 L3) :
    ∀ (N s : Nat), hk_dep key s < N → s < n → s ≠ st → hk_rch key s → (key s).toInt ≤ (key j).toInt → ∃ x1 k, x1 < F ∧ 2 * k + 2 = hk_dep key s ∧ 0 < hk_X LP1 st x1 ∧ hk_dep key (12 + x1) = 1 ∧ hb_ch n F bef (hk_X LP1) (hk_T LP0 L2 L3) (hk_dep key) x1 1 k s := by
  intro N
  induction N with
  | zero => exact fun s h => absurd h (Nat.not_lt_zero _)
  | succ N ih =>
    intro s hN hs1 hne hrs hle
    obtain ⟨f0, f1, f2, f3, f4, f5⟩ := hk_up2 hn12 hF hD h hr hs1 hrs hle hne
    rcases f5 with q | ⟨s0, g1, g2, g3, g4, g5, g6⟩
    · omega
    · by_cases c : s0 = st
      · subst c
        have e0 : hk_dep key s0 = 0 := by
          unfold hk_dep
          rw [h.2.2.2.1.1]
          rfl
        exact ⟨f0, 0, f1, by omega, g3, by omega, hs1, by omega, f2, f3⟩
      · obtain ⟨x1, k, k0, k1, k2, k3, k4⟩ := ih s0 (by omega) g1 c g5 g6
        refine ⟨x1, k + 1, k0, by omega, k2, k3, hs1, by omega, f0, s0, f1, ?_, f2, f3, g2, by omega, by omega, k4⟩
        intro q
        subst q
        omega
/-- a plan on the way: proved cheapest, rows as they can, columns as g says -/
def hk_S (n F : Nat) (LP0 : Nat → Int64) (C g : Nat → Int) (LP1 LP2 LP3 : Nat → Int64) : Prop := hk_D n F LP0 LP1 LP2 LP3 ∧ (∀ s, s < n → hk_tot (hk_X LP1) F s = C s) ∧ ∀ f, f < F → hcol (hk_X LP1) n f = g f
theorem hk_D.nn {n F : Nat} {LP0 LP1 LP2 LP3 : Nat → Int64} (hD : hk_D n F LP0 LP1 LP2 LP3) {s f : Nat} (hs1 : s < n) (hf : f < F) : 0 ≤ hk_X LP1 s f := by
  rcases hD.1 s f hs1 hf with k | k
  · omega
  · exact k.2.2.2.1
/-- a plan's cells, the unused columns left out -/
def hk_Xz (F : Nat) (LP1 : Nat → Int64) (s c : Nat) : Int := if c < F ∨ c = 8 then hk_X LP1 s c else 0
theorem hk_bring (hn12 : n ≤ 12) (hF : F ≤ 8) {C g : Nat → Int} (hC : ∀ s, s < n → C s ≤ 2000000000000) (hz : ∀ s c, s < n → F ≤ c → c < 8 → hk_X LP1 s c = 0) {x1 j k : Nat} (hx1 : x1 < F) {bef : Nat → Int32} {dep : Nat → Nat} {L2 L3 : Nat → Int64} (hS : hk_S n F LP0 C g LP1 L2 L3) (hch : hb_ch n F bef (hk_X LP1) (hk_T LP0 L2 L3) dep x1 1 k j) (hk11 : k < 12) (hidle : 0 < hk_X LP1 j 8) {need : Int64} (hneed : 0 < need.toInt) :
    0 < (f_Plan_bring LP1 bef x1 j need).1.toInt ∧ (f_Plan_bring LP1 bef x1 j need).1.toInt ≤ need.toInt ∧ hk_S n F LP0 C (fun f => g f + (if f = x1 then (f_Plan_bring LP1 bef x1 j need).1.toInt else 0)) (f_Plan_bring LP1 bef x1 j need).2 L2 L3 ∧ (∀ s c, s < n → F ≤ c → c < 8 → hk_X (f_Plan_bring LP1 bef x1 j need).2 s c = 0) ∧ ∀ s c, s < n → c < 9 → dep s = 0 → hk_X (f_Plan_bring LP1 bef x1 j need).2 s c = hk_X LP1 s c := by
  obtain ⟨hD, hT, hG⟩ := hS
  obtain ⟨Y, b1, b2, b3, b4⟩ := hb_bring (T := hk_T LP0 L2 L3) (dep := dep) hn12 hF hx1 (L := LP1) (X := hk_X LP1) (fun s f _ _ => rfl) (fun s c h1 h2 => by
      by_cases c1 : c < F
      · exact hD.nn h1 c1
      · by_cases c2 : c = 8
        · subst c2; exact (hD.2.1 s h1).1
        · rw [hz s c h1 (by omega) (by omega)]; exact Int.le_refl _) (fun s f h1 h2 h3 => by
      rcases hD.1 s f h1 h2 with k | k
      · omega
      · exact ⟨k.1, k.2.2.2.2.2 h3⟩) (fun s h1 => by rw [hT s h1]; exact hC s h1) hch hk11 hidle hneed
  obtain ⟨o1, o2, o3, o4, o5, o6, o7⟩ := b4
  generalize (f_Plan_bring LP1 bef x1 j need).2 = L' at *
  generalize (f_Plan_bring LP1 bef x1 j need).1.toInt = m at *
  have hj := hb_ch_n hch
  have ecell : ∀ s c, s < n → c < 9 → hk_X L' s c = Y s c := fun s c h1 h2 => b3 s c (by omega) h2
  have erow : ∀ s, s < n → hrow (hk_X L') F s = hrow Y F s := fun s h1 => hrow_congr (fun f hf => ecell s f h1 (by omega))
  refine ⟨b1, b2, ⟨⟨fun s f h1 h2 => ?_, fun s h1 => ?_, hD.2.2⟩, fun s h1 => ?_, fun f h1 => ?_⟩, fun s c h1 h2 h3 => ?_, fun s c h1 h2 h3 => by rw [ecell s c h1 h2]; exact o1 s c h1 h3⟩
  · rw [ecell s f h1 (by omega)]
    have nn := o2 s f h1 (by omega)
    have tt := o5 s f h1 h2
    rcases hD.1 s f h1 h2 with k | ⟨k1, k2, k3, k4, k5, k6⟩
    · refine Or.inl ⟨k.1, ?_⟩
      by_cases c : 0 < Y s f
      · exact absurd k.1 (tt c).1
      · omega
    · exact Or.inr ⟨k1, k2, k3, nn, k5, fun c => (tt c).2⟩
  · rw [ecell s 8 h1 (by omega)]
    have nn := o2 s 8 h1 (by omega)
    have e8 := o6 s h1
    have kr := hD.2.1 s h1
    refine ⟨nn, kr.2.1, kr.2.2.1, fun c => kr.2.2.2 ?_⟩
    by_cases q : s = j
    · rw [if_pos q] at e8; omega
    · rw [if_neg q] at e8; omega
  · unfold hk_tot
    rw [erow s h1, ecell s 8 h1 (by omega)]
    have := o3 s h1
    unfold hk_tot at this
    rw [this]
    exact hT s h1
  · rw [hcol_congr (fun s h2 => ecell s f h2 (by omega)), o4 f h1, hG f h1]
  · rw [ecell s c h1 (by omega)]
    rw [o7 s c h2 (by omega)]
    exact hz s c h1 h2 h3
/-- a round of serve(): the search found an end; prices are raised, more is brought -/
theorem hk_round (hn12 : n ≤ 12) (hF : F ≤ 8) {C g : Nat → Int} (hC : ∀ s, s < n → C s ≤ 2000000000000) (hz : ∀ s c, s < n → F ≤ c → c < 8 → hk_X LP1 s c = 0) {x1 j t : Nat} (hx1 : x1 < F) (hS : hk_S n F LP0 C g LP1 LP2 LP3) {done : Nat → Int32} {key : Nat → Int64} {bef : Nat → Int32} (h : hk_end n F LP0 LP1 LP2 LP3 (12 + x1) j t done key bef) {L2 L3 : Nat → Int64} (hr : hk_rd n F ((key j).toInt / 32) key LP2 LP3 L2 L3) {need : Int64} (hneed : 0 < need.toInt) :
    0 < (f_Plan_bring LP1 bef x1 j need).1.toInt ∧ (f_Plan_bring LP1 bef x1 j need).1.toInt ≤ need.toInt ∧ hk_S n F LP0 C (fun f => g f + (if f = x1 then (f_Plan_bring LP1 bef x1 j need).1.toInt else 0)) (f_Plan_bring LP1 bef x1 j need).2 L2 L3 ∧ ∀ s c, s < n → F ≤ c → c < 8 → hk_X (f_Plan_bring LP1 bef x1 j need).2 s c = 0 := by
  have hst : 12 + x1 < n ∨ (12 ≤ 12 + x1 ∧ 12 + x1 < 12 + F) := Or.inr ⟨by omega, by omega⟩
  have hD' := hk_raised hn12 hF hS.1 h hst hr
  obtain ⟨k, k1, k2⟩ := hk_chain hn12 hF hS.1 h hr (hk_dep key j + 1) j (Nat.lt_succ_self _) h.1 h.2.2.2.2.2.1 (Int.le_refl _)
  have hok := h.2.2.2.1.2.1 j (by have := h.1; omega) h.2.2.2.2.2.1
  unfold hk_ok at hok
  have hk11 : k < 12 := by
    have := h.2.2.1
    unfold hk_dep at k1
    omega
  have q := hk_bring hn12 hF hC hz hx1 (L2 := L2) (L3 := L3) (g := g) ⟨hD', hS.2.1, hS.2.2⟩ k2 hk11 h.2.1 hneed
  exact ⟨q.1, q.2.1, q.2.2.1, q.2.2.2.1⟩
/-- a search that found nobody: what it reached can't be served more -/
theorem hk_none (hn12 : n ≤ 12) (hF : F ≤ 8) {C g : Nat → Int} (hS : hk_S n F LP0 C g LP1 LP2 LP3) {st t : Nat} {done : Nat → Int32} {key : Nat → Int64} {bef : Nat → Int32} (hJ : hk_J n F LP0 LP1 LP2 LP3 st t done key bef) (hall : ∀ v, v < 21 → hk_rch key v → ¬ done v = 0) {y : Nat → Nat → Int} {cy : Nat → Int}
    (hy : ∀ s f, s < n → f < F → 0 ≤ y s f ∧ (¬ ¬ LP0 (s * 9 + f) = -1 → y s f = 0)) (hcy : ∀ s, s < n → hrow y F s ≤ cy s) :
    hs (fun f => (if done (12 + f) = 0 then 0 else 1) * (hcol y n f - g f)) F + hs (fun s => (if done s = 0 then 0 else 1) * (C s - cy s)) n ≤ 0 := by
  obtain ⟨hD, hT, hG⟩ := hS
  obtain ⟨r0, r1, r2, r3, r4, r6, r7, r8⟩ := hJ
  have a1 : ∀ s f, s < n → f < F → ¬ LP0 (s * 9 + f) = -1 → ¬ done (12 + f) = 0 → ¬ done s = 0 := by
    intro s f h1 h2 h3 h4
    exact hall s (by omega) (r4 (12 + f) s (by omega) (by omega) h4 (Or.inr ⟨by omega, by omega, h1, by rw [show 12 + f - 12 = f by omega]; exact h3⟩)).1
  have a2 : ∀ s f, s < n → f < F → 0 < hk_X LP1 s f → ¬ done s = 0 → ¬ done (12 + f) = 0 := by
    intro s f h1 h2 h3 h4
    exact hall (12 + f) (by omega) (r4 s (12 + f) (by omega) (by omega) h4 (Or.inl ⟨h1, by omega, by omega, by rw [show 12 + f - 12 = f by omega]; exact h3⟩)).1
  have k := hq_WD (n := n) (F := F) (sv := fun s f => ¬ LP0 (s * 9 + f) = -1) (u := fun _ _ => 0) (x := hk_X LP1) (y := y) (w := fun f => if done (12 + f) = 0 then 0 else 1) (r := fun s => if done s = 0 then 0 else 1) (cx := C) (cy := cy)
    (fun s f h1 h2 h3 => by
      show (if done (12 + f) = 0 then (0 : Int) else 1) ≤ 0 + (if done s = 0 then 0 else 1)
      by_cases c : done (12 + f) = 0
      · rw [if_pos c]
        by_cases c2 : done s = 0
        · rw [if_pos c2]; omega
        · rw [if_neg c2]; omega
      · rw [if_neg c, if_neg (a1 s f h1 h2 h3 c)]; omega)
    (fun s f h1 h2 => ⟨hD.nn h1 h2, fun h3 => by
      show (if done (12 + f) = 0 then (0 : Int) else 1) = 0 + (if done s = 0 then 0 else 1)
      have h4 : ¬ LP0 (s * 9 + f) = -1 := by
        rcases hD.1 s f h1 h2 with k | k
        · omega
        · exact k.1
      by_cases c : done (12 + f) = 0
      · rw [if_pos c]
        by_cases c2 : done s = 0
        · rw [if_pos c2]; omega
        · exact absurd c (a2 s f h1 h2 h3 c2)
      · rw [if_neg c, if_neg (a1 s f h1 h2 h4 c)]; omega⟩)
    (fun s h1 => by
      show (if done s = 0 then (0 : Int) else 1) * hrow (hk_X LP1) F s = (if done s = 0 then (0 : Int) else 1) * C s
      by_cases c : done s = 0
      · rw [if_pos c, Int.zero_mul, Int.zero_mul]
      · rw [if_neg c, Int.one_mul, Int.one_mul, ← hT s h1]
        have q1 := r7 s (by omega) c
        have q2 := (hD.2.1 s h1).1
        unfold hk_tot
        omega)
    hy
    (fun s h1 => by
      show (if done s = 0 then (0 : Int) else 1) * hrow y F s ≤ (if done s = 0 then (0 : Int) else 1) * cy s
      by_cases c : done s = 0
      · rw [if_pos c, Int.zero_mul, Int.zero_mul]; exact Int.le_refl _
      · rw [if_neg c, Int.one_mul, Int.one_mul]; exact hcy s h1)
  have e1 : hcost (fun _ _ => 0) y n F = 0 := hs_zero (fun s _ => hs_zero (fun f _ => Int.zero_mul _))
  have e2 : hcost (fun _ _ => 0) (hk_X LP1) n F = 0 := hs_zero (fun s _ => hs_zero (fun f _ => Int.zero_mul _))
  rw [e1, e2] at k
  have e3 : hs (fun f => (if done (12 + f) = 0 then (0 : Int) else 1) * (hcol y n f - g f)) F = hs (fun f => (if done (12 + f) = 0 then (0 : Int) else 1) * (hcol y n f - hcol (hk_X LP1) n f)) F := hs_congr (fun f hf => by rw [hG f hf])
  rw [e3]
  omega
/-- a plan that brings every fill what it wants -/
def hk_noFull (n F : Nat) (LP0 : Nat → Int64) (C want : Nat → Int) : Prop := ∀ y : Nat → Nat → Int, (∀ s f, s < n → f < F → 0 ≤ y s f ∧ (LP0 (s * 9 + f) = -1 → y s f = 0)) → (∀ s, s < n → hrow y F s ≤ C s) → (∀ f, f < F → hcol y n f = want f) → False
def hk_G (want : Nat → Int) (x1 : Nat) (need : Int) (f : Nat) : Int := if f < x1 then want f else if f = x1 then want x1 - need else 0
/-- the unused columns are empty, and idleness is worth nothing -/
def hk_Z (n F : Nat) (L1 L3 : Nat → Int64) : Prop := (∀ s c, s < n → F ≤ c → c < 8 → hk_X L1 s c = 0) ∧ L3 8 = 0
theorem hk_rw8 {n F : Nat} {D : Int64} {LP2 LP3 key : Nat → Int64} (hn12 : n ≤ 12) (hF : F ≤ 8) : (f_Plan_raiseWorths n F LP2 LP3 key D).2 8 = LP3 8 := by
  have k := (hk_rw2 (n := n) (F := F) (D := D) (LP4 := key) (LP2 := LP2) (LP3 := LP3) 13 0 LP2 (by omega) (Nat.zero_le _) (fun f => by rw [if_neg (Nat.not_lt_zero _)])).2 hF 8
  rw [if_neg (by omega)] at k
  exact k
theorem hk_serve13 (hn12 : n ≤ 12) (hF : F ≤ 8) {C want : Nat → Int} (hC : ∀ s, s < n → C s ≤ 2000000000000) (hwant : ∀ f, f < F → 0 ≤ want f) {x1 : Nat} (hx1 : x1 < F) :
    ∀ (m x4 : Nat) (need : Int64) (L1 L2 L3 key : Nat → Int64) (done bef : Nat → Int32), 1000000 - x4 < m → x4 + need.toInt ≤ 1000000 → 0 ≤ need.toInt → hk_S n F LP0 C (hk_G want x1 need.toInt) L1 L2 L3 → hk_Z n F L1 L3 →
      (((f_Plan_serve_h13 n F LP0 x1 f_Plan_serve_x13 m need x4 L1 L2 L3 key done bef).1 = nI 1 ∧ hk_S n F LP0 C (hk_G want x1 0) (f_Plan_serve_h13 n F LP0 x1 f_Plan_serve_x13 m need x4 L1 L2 L3 key done bef).2.1 (f_Plan_serve_h13 n F LP0 x1 f_Plan_serve_x13 m need x4 L1 L2 L3 key done bef).2.2.1 (f_Plan_serve_h13 n F LP0 x1 f_Plan_serve_x13 m need x4 L1 L2 L3 key done bef).2.2.2.1 ∧ hk_Z n F (f_Plan_serve_h13 n F LP0 x1 f_Plan_serve_x13 m need x4 L1 L2 L3 key done bef).2.1 (f_Plan_serve_h13 n F LP0 x1 f_Plan_serve_x13 m need x4 L1 L2 L3 key done bef).2.2.2.1) ∨
      ((f_Plan_serve_h13 n F LP0 x1 f_Plan_serve_x13 m need x4 L1 L2 L3 key done bef).1 = nI 0 ∧ hk_noFull n F LP0 C want)) := by
  intro m
  induction m with
  | zero => exact fun x4 need L1 L2 L3 key done bef h => absurd h (Nat.not_lt_zero _)
  | succ m ih =>
    intro x4 need L1 L2 L3 key done bef hm hx4 h0 hS hz
    rw [f_Plan_serve_h13]
    unfold f_Plan_serve_h13B
    by_cases c0 : need.toInt = 0
    · have e : need = 0 := Int64.toInt_inj.mp (by rw [c0, h64_0])
      subst e
      rw [h64_0] at hS
      have fin : ∀ r, r = f_Plan_serve_x13 0 x4 L1 L2 L3 key done bef → (r.1 = nI 1 ∧ hk_S n F LP0 C (hk_G want x1 0) r.2.1 r.2.2.1 r.2.2.2.1 ∧ hk_Z n F r.2.1 r.2.2.2.1) := by
        intro r hr
        unfold f_Plan_serve_x13 at hr
        rw [if_pos rfl] at hr
        subst hr
        exact ⟨rfl, hS, hz⟩
      by_cases c1 : 1000000 ≤ x4
      · rw [if_pos c1]
        exact Or.inl (fin _ rfl)
      · rw [if_neg c1, if_pos (show (0 : Int64) ≤ 0 by decide)]
        exact Or.inl (fin _ rfl)
    · rw [if_neg (by omega), if_neg (by rw [h64_le, h64_0]; omega), hh_bind]
      have hst : 12 + x1 < n ∨ (12 ≤ 12 + x1 ∧ 12 + x1 < 12 + F) := Or.inr ⟨by omega, by omega⟩
      have ho := hk_search hn12 hF hS.1 hst key done bef
      generalize f_Plan_search n F LP0 L1 L2 L3 key done bef (12 + x1) = y at ho ⊢
      rcases ho with ⟨o1, ⟨t, o2⟩, o3⟩ | ⟨j, t, o1, o2, o3⟩
      · rw [o1, if_neg (by decide)]
        refine Or.inr ⟨rfl, fun z z1 z2 z3 => ?_⟩
        have k := hk_none hn12 hF hS o2 o3 (y := z) (cy := C) (fun s f h1 h2 => ⟨(z1 s f h1 h2).1, fun q => (z1 s f h1 h2).2 (Classical.byContradiction q)⟩) z2
        have e1 : hs (fun s => (if y.2.2.1 s = 0 then (0 : Int) else 1) * (C s - C s)) n = 0 := hs_zero (fun s _ => by show (if y.2.2.1 s = 0 then (0 : Int) else 1) * (C s - C s) = 0; rw [Int.sub_self, Int.mul_zero])
        have hdst : ¬ y.2.2.1 (12 + x1) = 0 := by
          refine o3 (12 + x1) (by omega) (fun q => ?_)
          have := o2.1
          rw [q, hk_far] at this
          omega
        have e2 : 0 < hs (fun f => (if y.2.2.1 (12 + f) = 0 then (0 : Int) else 1) * (hcol z n f - hk_G want x1 need.toInt f)) F := by
          refine hs_pos (k := x1) (fun f hf => ?_) hx1 ?_
          · show 0 ≤ (if y.2.2.1 (12 + f) = 0 then (0 : Int) else 1) * (hcol z n f - hk_G want x1 need.toInt f)
            rw [z3 f hf]
            have := hwant f hf
            have hg : 0 ≤ want f - hk_G want x1 need.toInt f := by
              unfold hk_G
              by_cases q1 : f < x1
              · rw [if_pos q1]; omega
              · rw [if_neg q1]
                by_cases q2 : f = x1
                · rw [if_pos q2, q2]; omega
                · rw [if_neg q2]; omega
            by_cases q : y.2.2.1 (12 + f) = 0
            · rw [if_pos q, Int.zero_mul]; exact Int.le_refl _
            · rw [if_neg q, Int.one_mul]; exact hg
          · show 0 < (if y.2.2.1 (12 + x1) = 0 then (0 : Int) else 1) * (hcol z n x1 - hk_G want x1 need.toInt x1)
            rw [if_neg hdst, Int.one_mul, z3 x1 hx1]
            unfold hk_G
            rw [if_neg (by omega), if_pos rfl]
            omega
        omega
      · rw [o2, if_pos (nI_pos' (show j < 2 ^ 31 by omega)), nI_clamp (show j < 2 ^ 31 by omega), hh_bind, hh_bind]
        have he : hk_end n F LP0 L1 L2 L3 (12 + x1) j t y.2.2.1 y.2.1 y.2.2.2 := ⟨o1, o3⟩
        have hrd := hk_raise hn12 hF hS.1 he hst
        obtain ⟨b1, b2, b3, b4⟩ := hk_round hn12 hF hC hz.1 hx1 hS he hrd (need := need) (by omega)
        have en : (need - (f_Plan_bring L1 y.2.2.2 x1 j need).1).toInt = need.toInt - (f_Plan_bring L1 y.2.2.2 x1 j need).1.toInt := h64_sub (by omega) (by omega)
        refine ih (x4 + 1) _ _ _ _ _ _ _ (by omega) (by rw [en]; omega) (by rw [en]; omega) ?_ ⟨b4, by rw [hk_rw8 hn12 hF]; exact hz.2⟩
        rw [en]
        have eg : (fun f => hk_G want x1 need.toInt f + (if f = x1 then (f_Plan_bring L1 y.2.2.2 x1 j need).1.toInt else 0)) = hk_G want x1 (need.toInt - (f_Plan_bring L1 y.2.2.2 x1 j need).1.toInt) := by
          funext f
          unfold hk_G
          by_cases q1 : f < x1
          · rw [if_pos q1, if_pos q1, if_neg (by omega)]; omega
          · rw [if_neg q1, if_neg q1]
            by_cases q2 : f = x1
            · rw [if_pos q2, if_pos q2, if_pos q2]; omega
            · rw [if_neg q2, if_neg q2, if_neg q2]; omega
        rw [← eg]
        exact b3
end HSERVE
