/-! ===== what find() finds, by the reference's numbers of nodes ===== -/
theorem hd_s13 {f : Nat} (h : f < 8) : hd_s (13 + f) = 12 + f := by rw [show 13 + f = 1 + (12 + f) by omega, hd_s1 (by omega)]
theorem hd_s21 {w : Nat} (h : w < 12) : hd_s (21 + w) = 20 + w := by rw [show 21 + w = 1 + (20 + w) by omega, hd_s1 (by omega)]
def hd_i (v : Nat) : Nat := if v = 32 then 0 else if v = 33 then 33 else v + 1
theorem hd_si {v : Nat} (h : v < 34) : hd_s (hd_i v) = v ∧ hd_i v < 34 := by
  unfold hd_i
  by_cases c : v = 32
  · rw [if_pos c]; exact ⟨by rw [hd_s0]; omega, by omega⟩
  · rw [if_neg c]
    by_cases c2 : v = 33
    · rw [if_pos c2]; exact ⟨by rw [hd_s33]; omega, by omega⟩
    · rw [if_neg c2, show v + 1 = 1 + v by omega, hd_s1 (by omega)]
      exact ⟨rfl, by omega⟩
theorem hd_inj {v w : Nat} (hv : v < 34) (hw : w < 34) (h : hd_s v = hd_s w) : v = w := by
  unfold hd_s at h
  by_cases c : v = 0
  · rw [if_pos c] at h
    by_cases d : w = 0
    · omega
    · rw [if_neg d] at h
      by_cases d2 : w = 33
      · rw [if_pos d2] at h; omega
      · rw [if_neg d2] at h; omega
  · rw [if_neg c] at h
    by_cases c2 : v = 33
    · rw [if_pos c2] at h
      by_cases d : w = 0
      · rw [if_pos d] at h; omega
      · rw [if_neg d] at h
        by_cases d2 : w = 33
        · omega
        · rw [if_neg d2] at h; omega
    · rw [if_neg c2] at h
      by_cases d : w = 0
      · rw [if_pos d] at h; omega
      · rw [if_neg d] at h
        by_cases d2 : w = 33
        · rw [if_pos d2] at h; omega
        · rw [if_neg d2] at h; omega
theorem hd_A {c0 c3 : Nat → Int64} {c1 : Nat → Nat → Int64} {wk : Nat → Nat} {wt : Nat → Int64} {n F : Nat} {R : Nat → Int64} (h : hd_R c0 c1 (hl_2 wk wt F) c3 R) : ∀ a b, a < 34 → b < 34 → hd_B R a b = hnA n F (fun s => (c0 s).toInt) (fun s f => (c1 s f).toInt) (fun f => (wt f).toInt) wk (fun w => (c3 w).toInt) a b := by
  intro a b ha hb
  show (R (34 * hd_s a + hd_s b)).toInt = _
  rw [h _ _ (hd_lt ha) (hd_lt hb)]
  have eb : (b = 0 ∧ hd_s b = 32) ∨ (b = 33 ∧ hd_s b = 33) ∨ (b ≠ 0 ∧ b ≠ 33 ∧ hd_s b = b - 1) := by
    by_cases c : b = 0
    · exact Or.inl ⟨c, by rw [c]; rfl⟩
    · by_cases c2 : b = 33
      · exact Or.inr (Or.inl ⟨c2, by rw [c2]; rfl⟩)
      · exact Or.inr (Or.inr ⟨c, c2, by unfold hd_s; rw [if_neg c, if_neg c2]⟩)
  unfold hnA
  by_cases c : a = 0
  · rw [if_pos c, c, hd_s0]
    have e32 : hd_v c0 c1 (hl_2 wk wt F) c3 32 (hd_s b) = if hd_s b < 12 then c0 (hd_s b) else 0 := rfl
    rw [e32]
    by_cases k : 1 ≤ b ∧ b ≤ 12
    · rw [if_pos k, if_pos (by omega), show hd_s b = b - 1 by omega]
    · rw [if_neg k, if_neg (by omega), h64_0]
  · rw [if_neg c]
    by_cases c2 : a ≤ 12
    · rw [if_pos c2]
      have es : hd_s a = a - 1 := by unfold hd_s; rw [if_neg c, if_neg (by omega)]
      unfold hd_v
      rw [es, if_pos (by omega)]
      by_cases k : 13 ≤ b ∧ b ≤ 20
      · rw [if_pos k, if_pos (by omega), show hd_s b - 12 = b - 13 by omega]
      · rw [if_neg k, if_neg (by omega), h64_0]
    · rw [if_neg c2]
      by_cases c3' : a ≤ 20
      · rw [if_pos c3']
        have es : hd_s a = a - 1 := by unfold hd_s; rw [if_neg c, if_neg (by omega)]
        unfold hd_v
        rw [es, if_neg (by omega), if_pos (by omega)]
        by_cases k : 21 ≤ b ∧ b ≤ 32
        · rw [if_pos k, if_pos (by omega), show hd_s b - 20 = b - 21 by omega, show a - 1 - 12 = a - 13 by omega]
          unfold hl_2
          by_cases k2 : a - 13 < F ∧ b - 21 = wk (a - 13)
          · rw [if_pos k2, if_pos k2]
          · rw [if_neg k2, if_neg k2, h64_0]
        · rw [if_neg k, if_neg (by omega), h64_0]
      · rw [if_neg c3']
        by_cases c4 : a ≤ 32
        · rw [if_pos c4]
          have es : hd_s a = a - 1 := by unfold hd_s; rw [if_neg c, if_neg (by omega)]
          unfold hd_v
          rw [es, if_neg (by omega), if_neg (by omega), if_pos (by omega)]
          by_cases k : b = 33
          · rw [if_pos k, if_pos (by omega), show a - 1 - 20 = a - 21 by omega]
          · rw [if_neg k, if_neg (by omega), h64_0]
        · rw [if_neg c4]
          have es : hd_s a = 33 := by rw [show a = 33 by omega]; rfl
          unfold hd_v
          rw [es, if_neg (by omega), if_neg (by omega), if_neg (by omega), if_neg (by omega), h64_0]
theorem hd_Cl {R : Nat → Int64} {f w : Nat} (hf : f < 8) (hw : w < 12) : hc_Cl R (12 + f) (20 + w) ↔ ∀ S : Nat → Prop, S (13 + f) → (∀ a b, a < 34 → b < 34 → S a → 0 < hd_B R a b → S b) → S (21 + w) := by
  constructor
  · intro h S hS hcl
    obtain ⟨v, h1, h2, h3⟩ := h (fun v' => ∃ v, v < 34 ∧ hd_s v = v' ∧ S v) ⟨13 + f, by omega, hd_s13 hf, hS⟩ (fun a v ha hv hSa hp => by
      obtain ⟨a0, a1, a2, a3⟩ := hSa
      have k := hd_si hv
      refine ⟨hd_i v, k.2, k.1, hcl a0 (hd_i v) a1 k.2 a3 ?_⟩
      show 0 < (R (34 * hd_s a0 + hd_s (hd_i v))).toInt
      rw [a2, k.1]
      exact hp)
    have : v = 21 + w := hd_inj h1 (by omega) (by rw [h2, hd_s21 hw])
    rw [← this]
    exact h3
  · intro h S hS hcl
    have k := h (fun v => S (hd_s v)) (by show S (hd_s (13 + f)); rw [hd_s13 hf]; exact hS) (fun a b ha hb hSa hp => hcl _ _ (hd_lt ha) (hd_lt hb) hSa hp)
    have k' : S (hd_s (21 + w)) := k
    rw [hd_s21 hw] at k'
    exact k'
section HDFIND
variable {VS0 VS1 VS2 : Nat} {NS0 NS1 NS2 : Nat → Nat} {LS0 LS4 LS6 LS7 LS8 : Nat → Int64} {IS0 : Nat → Int32}
theorem hd_find (hF : VS2 ≤ 8) (hn12 : VS0 + VS1 ≤ 12) (hwk : ∀ i, NS2 i < 12) (hw : ∀ f, f < VS2 → 0 ≤ (LS4 f).toInt ∧ (LS4 f).toInt ≤ 1000000) (hcap : ∀ s, s < VS0 + VS1 → 0 ≤ (hk_cp VS0 NS0 LS0 LS6 LS7 s).toInt ∧ (hk_cp VS0 NS0 LS0 LS6 LS7 s).toInt ≤ 1099511627776) (hmo : ∀ w, w < 12 → 0 ≤ (LS8 w).toInt ∧ (LS8 w).toInt ≤ 1099511627776)
    (NT0 NT1 : Nat → Nat) (LT0 : Nat → Int64) (IT0 : Nat → Int32) :
    ∃ B v, hn_is (VS0 + VS1) VS2 VS0 (fun s f => ¬ hk_sv VS0 NS0 NS1 NS2 IS0 s f = 0) (fun s => (hk_cp VS0 NS0 LS0 LS6 LS7 s).toInt) (fun f => (LS4 f).toInt) NS2 (fun w => (LS8 w).toInt) B v ∧
      (∃ sn, h01 sn ∧ sn 0 = 1 ∧ sn 33 = 0 ∧ ∀ a b, a < 34 → b < 34 → sn a = 1 → 0 < B a b → sn b = 1) ∧
      ∃ c, hc_list c VS2 (f_Shortage_find NT0 NT1 LT0 IT0 VS0 VS1 VS2 NS0 NS1 NS2 LS0 LS4 LS6 LS7 LS8 IS0).2.2.2.1 (f_Shortage_find NT0 NT1 LT0 IT0 VS0 VS1 VS2 NS0 NS1 NS2 LS0 LS4 LS6 LS7 LS8 IS0).2.2.2.2 ∧
        ∀ f, f < VS2 → (c f = true ↔ ∀ S : Nat → Prop, S (13 + f) → (∀ a b, a < 34 → b < 34 → S a → 0 < B a b → S b) → S (21 + NS2 f)) := by
  unfold f_Shortage_find
  rw [hh_bind]
  have hR := hd_clear (VS0 := VS0) (VS1 := VS1) (NS0 := NS0) (NS1 := NS1) (LS0 := LS0) (LS4 := LS4) (LS6 := LS6) (LS7 := LS7) (LS8 := LS8) (IS0 := IS0) hF hn12 hwk LT0
  generalize f_Shortage_clear LT0 VS0 VS1 VS2 NS0 NS1 NS2 LS0 LS4 LS6 LS7 LS8 IS0 = R0 at hR ⊢
  have z0 : (0 : Int64).toInt = 0 := by decide
  have z40 : (1099511627776 : Int64).toInt = 1099511627776 := by decide
  have b0 : ∀ s, 0 ≤ (hl_0 (hk_cp VS0 NS0 LS0 LS6 LS7) (VS0 + VS1) s).toInt ∧ (hl_0 (hk_cp VS0 NS0 LS0 LS6 LS7) (VS0 + VS1) s).toInt ≤ 1099511627776 := by
    intro s
    unfold hl_0
    by_cases c : s < VS0 + VS1
    · rw [if_pos c]; exact hcap s c
    · rw [if_neg c, z0]; omega
  have b1 : ∀ s f, 0 ≤ (hl_t VS2 (hk_sv VS0 NS0 NS1 NS2 IS0) (fun _ _ => 1099511627776) (VS0 + VS1) 0 s f).toInt ∧ (hl_t VS2 (hk_sv VS0 NS0 NS1 NS2 IS0) (fun _ _ => 1099511627776) (VS0 + VS1) 0 s f).toInt ≤ 1099511627776 := by
    intro s f
    unfold hl_t
    by_cases c : (s < VS0 + VS1 ∨ (s = VS0 + VS1 ∧ f < 0)) ∧ f < VS2 ∧ ¬ hk_sv VS0 NS0 NS1 NS2 IS0 s f = 0
    · rw [if_pos c, z40]; omega
    · rw [if_neg c, z0]; omega
  have b2 : ∀ f w, 0 ≤ (hl_2 NS2 LS4 VS2 f w).toInt ∧ (hl_2 NS2 LS4 VS2 f w).toInt ≤ 1099511627776 := by
    intro f w
    unfold hl_2
    by_cases c : f < VS2 ∧ w = NS2 f
    · rw [if_pos c]
      have := hw f c.1
      omega
    · rw [if_neg c, z0]; omega
  have b3 : ∀ w, w < 12 → 0 ≤ (hd_3 NS2 LS8 VS2 w).toInt ∧ (hd_3 NS2 LS8 VS2 w).toInt ≤ 1099511627776 := by
    intro w hw'
    unfold hd_3
    by_cases c : hd_hf NS2 VS2 w = true
    · rw [if_pos c]; exact hmo w hw'
    · rw [if_neg c, z0]; omega
  have vb : ∀ a b, a < 34 → b < 34 → 0 ≤ (R0 (34 * a + b)).toInt ∧ (R0 (34 * a + b)).toInt ≤ 1099511627776 ∧ ((R0 (34 * a + b)).toInt = 0 ∨ (R0 (34 * b + a)).toInt = 0) := by
    intro a b ha hb
    rw [hR a b ha hb, hR b a hb ha]
    unfold hd_v
    have q0 := b0 b
    have q1 := b1 a (b - 12)
    have q2 := b2 (a - 12) (b - 20)
    by_cases c1 : a < 12
    · rw [if_pos c1]
      by_cases k : 12 ≤ b ∧ b < 20
      · rw [if_pos k, if_neg (show ¬ b < 12 by omega), if_pos (show b < 20 by omega), if_neg (show ¬ (20 ≤ a ∧ a < 32) by omega), z0]
        omega
      · rw [if_neg k, z0]; omega
    · rw [if_neg c1]
      by_cases c2 : a < 20
      · rw [if_pos c2]
        by_cases k : 20 ≤ b ∧ b < 32
        · rw [if_pos k, if_neg (show ¬ b < 12 by omega), if_neg (show ¬ b < 20 by omega), if_pos (show b < 32 by omega), if_neg (show ¬ a = 33 by omega), z0]
          omega
        · rw [if_neg k, z0]; omega
      · rw [if_neg c2]
        by_cases c3 : a < 32
        · rw [if_pos c3]
          have q3 := b3 (a - 20) (by omega)
          by_cases k : b = 33
          · rw [if_pos k, if_neg (show ¬ b < 12 by omega), if_neg (show ¬ b < 20 by omega), if_neg (show ¬ b < 32 by omega), if_neg (show ¬ b = 32 by omega), z0]
            omega
          · rw [if_neg k, z0]; omega
        · rw [if_neg c3]
          by_cases c4 : a = 32
          · rw [if_pos c4]
            by_cases k : b < 12
            · rw [if_pos k, if_pos k, if_neg (show ¬ (12 ≤ a ∧ a < 20) by omega), z0]
              omega
            · rw [if_neg k, z0]; omega
          · rw [if_neg c4, z0]; omega
  have hb40 : ∀ a b, a < 34 → b < 34 → (R0 (34 * a + b)).toInt + (R0 (34 * b + a)).toInt ≤ 1099511627776 := by
    intro a b ha hb
    have p := vb a b ha hb
    have q := vb b a hb ha
    omega
  have hrb : hm_rb R0 := fun a b ha hb => ⟨(vb a b ha hb).1, by have := hb40 a b ha hb; omega⟩
  refine hc_6 (R0 := R0) (Post := fun r => ∃ B v, hn_is (VS0 + VS1) VS2 VS0 (fun s f => ¬ hk_sv VS0 NS0 NS1 NS2 IS0 s f = 0) (fun s => (hk_cp VS0 NS0 LS0 LS6 LS7 s).toInt) (fun f => (LS4 f).toInt) NS2 (fun w => (LS8 w).toInt) B v ∧
      (∃ sn, h01 sn ∧ sn 0 = 1 ∧ sn 33 = 0 ∧ ∀ a b, a < 34 → b < 34 → sn a = 1 → 0 < B a b → sn b = 1) ∧
      ∃ c, hc_list c VS2 r.2.2.2.1 r.2.2.2.2 ∧ ∀ f, f < VS2 → (c f = true ↔ ∀ S : Nat → Prop, S (13 + f) → (∀ a b, a < 34 → b < 34 → S a → 0 < B a b → S b) → S (21 + NS2 f))) hb40 (fun x R bef queue hFl hset => ?_) 1000001 0 R0 IT0 NT1 (fun _ => 0) 0 (by omega) ⟨hrb, fun _ _ _ _ => rfl, 0, fun w hw' => ?_⟩ ⟨rfl, rfl, fun _ _ _ _ _ => Nat.zero_le _⟩ (by omega) ?_
  · obtain ⟨f1, f2, sv', f3⟩ := hFl
    obtain ⟨sn, s1, s2, s3⟩ := hset
    unfold f_Shortage_find_x6
    refine ⟨hd_B R, sv', ⟨_, _, _, hd_B R0, hd_A hR, hn12, hF, fun f _ => hwk f, fun s f hc => ?_, fun s hs1 => ?_, fun a b ha hb => (f1 _ _ (hd_lt ha) (hd_lt hb)).1, fun a b ha hb => f2 _ _ (hd_lt ha) (hd_lt hb), fun a ha => ?_, fun s hs1 => ⟨fun hc => ?_, fun hc => ?_⟩, fun s f hs1 hf => ⟨fun hc => ?_, fun hc => ?_⟩, fun w hw' => ⟨fun hc => ?_, ?_⟩, fun w hw' => (hmo w hw').1, ?_⟩, ⟨fun v => if sn (hd_s v) = -1 then 0 else 1, fun v => ?_, ?_, ?_, fun a b ha hb hsa hp => ?_⟩, ?_⟩
    · show (hl_t VS2 (hk_sv VS0 NS0 NS1 NS2 IS0) (fun _ _ => 1099511627776) (VS0 + VS1) 0 s f).toInt = 0
      unfold hl_t
      rw [if_neg (by omega), z0]
    · show (hl_0 (hk_cp VS0 NS0 LS0 LS6 LS7) (VS0 + VS1) s).toInt = 0
      unfold hl_0
      rw [if_neg (by omega), z0]
    · rw [← hd_ho, ← hd_ho, f3 _ (hd_lt ha)]
      have e1 : (hd_s a = 33) = (a = 33) := propext ⟨fun h => hd_inj ha (by omega) (by rw [h]; rfl), fun h => by rw [h]; rfl⟩
      have e2 : (hd_s a = 32) = (a = 0) := propext ⟨fun h => hd_inj ha (by omega) (by rw [h]; rfl), fun h => by rw [h]; rfl⟩
      simp only [e1, e2]
    · show (hl_0 (hk_cp VS0 NS0 LS0 LS6 LS7) (VS0 + VS1) s).toInt = _
      unfold hl_0
      rw [if_pos hs1]
    · show 1000000000000 ≤ (hl_0 (hk_cp VS0 NS0 LS0 LS6 LS7) (VS0 + VS1) s).toInt
      unfold hl_0
      rw [if_pos hs1]
      have : hk_cp VS0 NS0 LS0 LS6 LS7 s = 1099511627776 := by
        show f_Site_capacity VS0 NS0 LS0 LS6 LS7 s = _
        unfold f_Site_capacity
        rw [if_pos hc]
      rw [this, z40]
      omega
    · show 1000000000000 ≤ (hl_t VS2 (hk_sv VS0 NS0 NS1 NS2 IS0) (fun _ _ => 1099511627776) (VS0 + VS1) 0 s f).toInt
      unfold hl_t
      rw [if_pos ⟨Or.inl hs1, hf, hc⟩, z40]
      omega
    · show (hl_t VS2 (hk_sv VS0 NS0 NS1 NS2 IS0) (fun _ _ => 1099511627776) (VS0 + VS1) 0 s f).toInt = 0
      unfold hl_t
      rw [if_neg (fun q => hc q.2.2), z0]
    · show (hd_3 NS2 LS8 VS2 w).toInt = (LS8 w).toInt
      unfold hd_3
      rw [if_pos hc]
    · show (hd_3 NS2 LS8 VS2 w).toInt = (LS8 w).toInt ∨ (hd_3 NS2 LS8 VS2 w).toInt = 0
      unfold hd_3
      by_cases c : hd_hf NS2 VS2 w = true
      · rw [if_pos c]; exact Or.inl rfl
      · rw [if_neg c]; exact Or.inr z0
    · have k : hs (fun f => (LS4 f).toInt) VS2 ≤ hs (fun _ => (1000000 : Int)) VS2 := hs_le (fun f hf => (hw f hf).2)
      rw [hs_const] at k
      omega
    · show (if sn (hd_s v) = -1 then (0 : Int) else 1) = 0 ∨ (if sn (hd_s v) = -1 then (0 : Int) else 1) = 1
      by_cases c : sn (hd_s v) = -1
      · rw [if_pos c]; exact Or.inl rfl
      · rw [if_neg c]; exact Or.inr rfl
    · show (if sn (hd_s 0) = -1 then (0 : Int) else 1) = 1
      rw [hd_s0, if_neg s1]
    · show (if sn (hd_s 33) = -1 then (0 : Int) else 1) = 0
      rw [hd_s33, if_pos s2]
    · have hsa' : (if sn (hd_s a) = -1 then (0 : Int) else 1) = 1 := hsa
      show (if sn (hd_s b) = -1 then (0 : Int) else 1) = 1
      have hna : ¬ sn (hd_s a) = -1 := by
        intro q
        rw [if_pos q] at hsa'
        omega
      rw [if_neg (s3 _ _ (hd_lt ha) (hd_lt hb) hna hp)]
    · refine hc_40 (R := R) (c := fun f => @decide (hc_Cl R (12 + f) (20 + NS2 f)) (Classical.propDecidable _)) hF hwk (fun f _ => @decide_eq_true_iff _ (Classical.propDecidable _)) (Post := fun r => ∃ c, hc_list c VS2 r.2.2.2.1 r.2.2.2.2 ∧ ∀ f, f < VS2 → (c f = true ↔ ∀ S : Nat → Prop, S (13 + f) → (∀ a b, a < 34 → b < 34 → S a → 0 < hd_B R a b → S b) → S (21 + NS2 f))) (fun bef' queue' n' l' hl => ⟨_, hl, fun f hf => ?_⟩) 9 0 bef queue 0 NT0 (by omega) (Nat.zero_le _) ⟨rfl, fun f hf => absurd hf (Nat.not_lt_zero _)⟩
      rw [← hd_Cl (by omega) (hwk f)]
      exact @decide_eq_true_iff _ (Classical.propDecidable _)
  · omega
  · have k := hn_le (fun i => decide (0 < (R0 i).toInt ∧ (fun _ => 0) (i % 34) = (fun _ => 0) (i / 34) + 1)) 1156
    unfold hc_mu hc_adm
    omega
end HDFIND
