/-! ===== the laid network is a good one ===== -/
theorem hl_net {n F VM1 : Nat} {NM0 NM1 NM2 : Nat → Nat} {IM0 : Nat → Int32} {cap wt mo : Nat → Int64} {un : Nat → Nat → Int64} {r : (Nat → Int64) × (Nat → Int64)} (hn : n ≤ 12) (hF : F ≤ 8) (hwk : ∀ i, NM2 i < 12)
    (h : hl_is (hl_0 cap n) (hl_t F (hl_sv VM1 NM0 NM1 NM2 IM0) (fun _ _ => 1000000000000) n 0) (hl_2 NM2 wt F) (hl_0 mo 12) (hl_t F (hl_sv VM1 NM0 NM1 NM2 IM0) un n 0) r)
    (hcap : ∀ s, s < n → 0 ≤ (cap s).toInt ∧ (cap s).toInt ≤ 1000000000000) (hwt : ∀ f, f < F → 0 ≤ (wt f).toInt ∧ (wt f).toInt ≤ 10000000000) (hmo : ∀ w, w < 12 → 0 ≤ (mo w).toInt ∧ (mo w).toInt ≤ 10000000000000) (hun : ∀ s f, s < n → f < F → 0 ≤ (un s f).toInt ∧ (un s f).toInt ≤ 1000000) :
    hm_Net r.1 r.2 (fun _ => 0) ∧ (∀ f, f < 8 → ho r.1 (13 + f) ≤ 100000000000) ∧ hm_Cells n F VM1 NM0 NM1 NM2 IM0 r.1 0 0 := by
  obtain ⟨hR, hC⟩ := h
  have z0 : (0 : Int64).toInt = 0 := h64_0
  have zM : (1000000000000 : Int64).toInt = 1000000000000 := by decide
  have b0 : ∀ s, 0 ≤ (hl_0 cap n s).toInt ∧ (hl_0 cap n s).toInt ≤ 1000000000000 := by
    intro s
    unfold hl_0
    by_cases c : s < n
    · rw [if_pos c]; exact hcap s c
    · rw [if_neg c, z0]; omega
  have b1 : ∀ s f, 0 ≤ (hl_t F (hl_sv VM1 NM0 NM1 NM2 IM0) (fun _ _ => 1000000000000) n 0 s f).toInt ∧ (hl_t F (hl_sv VM1 NM0 NM1 NM2 IM0) (fun _ _ => 1000000000000) n 0 s f).toInt ≤ 1000000000000 := by
    intro s f
    unfold hl_t
    by_cases c : (s < n ∨ (s = n ∧ f < 0)) ∧ f < F ∧ ¬ hl_sv VM1 NM0 NM1 NM2 IM0 s f = 0
    · rw [if_pos c, zM]; omega
    · rw [if_neg c, z0]; omega
  have b2 : ∀ f w, 0 ≤ (hl_2 NM2 wt F f w).toInt ∧ (hl_2 NM2 wt F f w).toInt ≤ 10000000000 := by
    intro f w
    unfold hl_2
    by_cases c : f < F ∧ w = NM2 f
    · rw [if_pos c]; exact hwt f c.1
    · rw [if_neg c, z0]; omega
  have b3 : ∀ w, 0 ≤ (hl_0 mo 12 w).toInt ∧ (hl_0 mo 12 w).toInt ≤ 10000000000000 := by
    intro w
    unfold hl_0
    by_cases c : w < 12
    · rw [if_pos c]; exact hmo w c
    · rw [if_neg c, z0]; omega
  have bd : ∀ s f, 0 ≤ (hl_t F (hl_sv VM1 NM0 NM1 NM2 IM0) un n 0 s f).toInt ∧ (hl_t F (hl_sv VM1 NM0 NM1 NM2 IM0) un n 0 s f).toInt ≤ 1000000 := by
    intro s f
    unfold hl_t
    by_cases c : (s < n ∨ (s = n ∧ f < 0)) ∧ f < F ∧ ¬ hl_sv VM1 NM0 NM1 NM2 IM0 s f = 0
    · rw [if_pos c]; exact hun s f (by omega) c.2.1
    · rw [if_neg c, z0]; omega
  generalize hc0 : hl_0 cap n = c0 at *
  generalize hc1 : hl_t F (hl_sv VM1 NM0 NM1 NM2 IM0) (fun _ _ => 1000000000000) n 0 = c1 at *
  generalize hc2 : hl_2 NM2 wt F = c2 at *
  generalize hc3 : hl_0 mo 12 = c3 at *
  generalize hdd : hl_t F (hl_sv VM1 NM0 NM1 NM2 IM0) un n 0 = d at *
  have vb : ∀ a b, 0 ≤ (hl_v c0 c1 c2 c3 a b).toInt ∧ (hl_v c0 c1 c2 c3 a b).toInt ≤ 10000000000000 := by
    intro a b
    have q0 := b0 (b - 1)
    have q1 := b1 (a - 1) (b - 13)
    have q2 := b2 (a - 13) (b - 21)
    have q3 := b3 (a - 21)
    unfold hl_v
    split <;> (try split) <;> (try split) <;> (try split) <;> (try split) <;> (try rw [z0]) <;> omega
  have wb : ∀ a b, -1000000 ≤ (hl_w d a b).toInt ∧ (hl_w d a b).toInt ≤ 1000000 ∧ (a < 13 → 0 ≤ (hl_w d a b).toInt) := by
    intro a b
    have q1 := bd (a - 1) (b - 13)
    have q2 := bd (b - 1) (a - 13)
    have q3 : (-(d (b - 1) (a - 13))).toInt = -(d (b - 1) (a - 13)).toInt := h64_neg (by omega)
    unfold hl_w
    by_cases k : (1 ≤ a ∧ a ≤ 12) ∧ 13 ≤ b ∧ b ≤ 20
    · rw [if_pos k]; omega
    · rw [if_neg k]
      by_cases k2 : (13 ≤ a ∧ a ≤ 20) ∧ 1 ≤ b ∧ b ≤ 12
      · rw [if_pos k2, q3]; omega
      · rw [if_neg k2, z0]; omega
  have wz : ∀ a b, 13 ≤ a → 21 ≤ b → hl_w d a b = 0 := by
    intro a b h1 h2
    unfold hl_w
    rw [if_neg (by omega), if_neg (by omega)]
  have vz : ∀ a b, 13 ≤ a → b < 21 → hl_v c0 c1 c2 c3 a b = 0 := by
    intro a b h1 h2
    unfold hl_v
    rw [if_neg (by omega), if_neg (by omega)]
    by_cases k : a ≤ 20
    · rw [if_pos k, if_neg (by omega)]
    · rw [if_neg k]
      by_cases k2 : a ≤ 32
      · rw [if_pos k2, if_neg (by omega)]
      · rw [if_neg k2]
  refine ⟨⟨?_, ?_, ?_, ?_, rfl, fun v hv => ⟨Int.le_refl _, Int.le_refl _, show (0 : Int) ≤ 4000000000000000 by decide⟩⟩, ?_, ?_⟩
  · intro a b ha hb hpos
    show (0 : Int) ≤ 0 + (r.2 (34 * a + b)).toInt
    rw [hR a b ha hb] at hpos
    rw [hC a b ha hb]
    by_cases k : a < 13
    · have := (wb a b).2.2 k
      omega
    · by_cases k2 : b < 21
      · rw [vz a b (by omega) k2, z0] at hpos
        omega
      · rw [wz a b (by omega) (by omega), z0]
        omega
  · intro k hk
    have e : k = 34 * (k / 34) + k % 34 := by omega
    rw [e, hC (k / 34) (k % 34) (by omega) (by omega)]
    have := wb (k / 34) (k % 34)
    omega
  · intro a b ha hb
    rw [hR a b ha hb, hR b a hb ha]
    have p1 := vb a b
    have p2 := vb b a
    omega
  · intro a b ha hb
    rw [hC a b ha hb, hC b a hb ha]
    unfold hl_w
    by_cases k : (1 ≤ a ∧ a ≤ 12) ∧ 13 ≤ b ∧ b ≤ 20
    · rw [if_pos k, if_neg (by omega), if_pos (by omega)]
      have q := bd (a - 1) (b - 13)
      rw [h64_neg (by omega)]
      omega
    · rw [if_neg k]
      by_cases k2 : (13 ≤ a ∧ a ≤ 20) ∧ 1 ≤ b ∧ b ≤ 12
      · rw [if_pos k2, if_pos (by omega)]
        have q := bd (b - 1) (a - 13)
        rw [h64_neg (by omega)]
      · rw [if_neg k2, if_neg (by omega), if_neg (by omega), z0]
        rfl
  · intro f hf
    have e : ho r.1 (13 + f) = hs (fun b => if 21 ≤ b ∧ b ≤ 32 then (c2 f (b - 21)).toInt else 0) 34 := by
      refine hs_congr (fun b hb => ?_)
      rw [hR (13 + f) b (by omega) hb]
      unfold hl_v
      rw [if_neg (by omega), if_neg (by omega), if_pos (by omega)]
      by_cases k : 21 ≤ b ∧ b ≤ 32
      · rw [if_pos k, if_pos k, show 13 + f - 13 = f by omega]
      · rw [if_neg k, if_neg k, z0]
    have e2 : hs (fun b => if 21 ≤ b ∧ b ≤ 32 then (c2 f (b - 21)).toInt else 0) 34 = hs (fun b => if b = 21 + NM2 f then (if f < F then (wt f).toInt else 0) else 0) 34 := by
      refine hs_congr (fun b hb => ?_)
      have hw := hwk f
      by_cases k : 21 ≤ b ∧ b ≤ 32
      · rw [if_pos k, ← hc2]
        unfold hl_2
        by_cases kb : b = 21 + NM2 f
        · rw [if_pos kb]
          by_cases kf : f < F
          · rw [if_pos ⟨kf, by omega⟩, if_pos kf]
          · rw [if_neg (fun q => kf q.1), if_neg kf, z0]
        · rw [if_neg kb, if_neg (fun q => kb (by omega)), z0]
      · rw [if_neg k, if_neg (by omega)]
    have e3 := hs_upd1 (fun _ => 0) (21 + NM2 f) (if f < F then (wt f).toInt else 0) (n := 34) (by have := hwk f; omega)
    rw [hs_zero (fun _ _ => rfl)] at e3
    have e4 : hs (fun b => if b = 21 + NM2 f then (if f < F then (wt f).toInt else 0) else 0) 34 = 0 + (if f < F then (wt f).toInt else 0) := by
      rw [← e3]
      refine hs_congr (fun b hb => ?_)
      by_cases kb : b = 21 + NM2 f
      · rw [if_pos kb, if_pos kb]; omega
      · rw [if_neg kb, if_neg kb]
    rw [e, e2, e4]
    by_cases kf : f < F
    · rw [if_pos kf]
      have := hwt f kf
      omega
    · rw [if_neg kf]
      omega
  · intro s f hs hf hsn hfF _ hse
    rw [hR (1 + s) (13 + f) (by omega) (by omega), hl_v1 s f hs hf, hR (13 + f) (1 + s) (by omega) (by omega), vz _ _ (by omega) (by omega), z0, ← hc1]
    unfold hl_t
    rw [if_pos ⟨Or.inl hsn, hfF, hse⟩, zM]
    omega
