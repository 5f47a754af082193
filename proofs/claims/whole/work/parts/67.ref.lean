/-! ===== prices that prove a plan cheapest ===== -/
def hq_cert (n F cuts : Nat) (sv : Nat → Nat → Prop) (u x : Nat → Nat → Int) (cap w r : Nat → Int) : Prop :=
  (∀ s f, s < n → f < F → sv s f → w f ≤ u s f + r s) ∧ (∀ s f, s < n → f < F → 0 ≤ x s f ∧ (0 < x s f → w f = u s f + r s)) ∧ ∀ s, s < n → 0 ≤ r s ∧ (0 < r s → s < cuts ∧ hrow x F s = cap s)
section HCERT
variable {n F cuts : Nat} {sv : Nat → Nat → Prop} {u x y : Nat → Nat → Int} {cap w r cy : Nat → Int}
theorem hq_cert.rows (h : hq_cert n F cuts sv u x cap w r) : ∀ s, s < n → r s * hrow x F s = r s * cap s := by
  intro s hs1
  have k := h.2.2 s hs1
  by_cases c : 0 < r s
  · rw [(k.2 c).2]
  · rw [show r s = 0 by omega, Int.zero_mul, Int.zero_mul]
theorem hq_cert.rowsy (h : hq_cert n F cuts sv u x cap w r) (hy : ∀ s, s < n → s < cuts → hrow y F s ≤ cy s) : ∀ s, s < n → r s * hrow y F s ≤ r s * cy s := by
  intro s hs1
  have k := h.2.2 s hs1
  by_cases c : 0 < r s
  · exact Int.mul_le_mul_of_nonneg_left (hy s hs1 (k.2 c).1) (by omega)
  · rw [show r s = 0 by omega, Int.zero_mul, Int.zero_mul]
    exact Int.le_refl _
theorem hq_cert.le (h : hq_cert n F cuts sv u x cap w r) (hy0 : ∀ s f, s < n → f < F → 0 ≤ y s f ∧ (¬ sv s f → y s f = 0)) (hy : ∀ s, s < n → s < cuts → hrow y F s ≤ cy s) :
    hs (fun f => w f * (hcol y n f - hcol x n f)) F + hs (fun s => r s * (cap s - cy s)) n ≤ hcost u y n F - hcost u x n F := hq_WD h.1 h.2.1 h.rows hy0 (h.rowsy hy)
/-- with the same columns: no plan is cheaper -/
theorem hq_cert.best (h : hq_cert n F cuts sv u x cap w r) (hy0 : ∀ s f, s < n → f < F → 0 ≤ y s f ∧ (¬ sv s f → y s f = 0)) (hy : ∀ s, s < n → s < cuts → hrow y F s ≤ cap s) (hc : ∀ f, f < F → hcol y n f = hcol x n f) : hcost u x n F ≤ hcost u y n F := by
  have k := h.le (cy := cap) hy0 hy
  have e1 : hs (fun f => w f * (hcol y n f - hcol x n f)) F = 0 := hs_zero (fun f hf => by show w f * (hcol y n f - hcol x n f) = 0; rw [hc f hf, Int.sub_self, Int.mul_zero])
  have e2 : hs (fun s => r s * (cap s - cap s)) n = 0 := hs_zero (fun f hf => by show r f * (cap f - cap f) = 0; rw [Int.sub_self, Int.mul_zero])
  omega
/-- with the same columns and cost: tight cells alone -/
theorem hq_cert.tight (h : hq_cert n F cuts sv u x cap w r) (hy0 : ∀ s f, s < n → f < F → 0 ≤ y s f ∧ (¬ sv s f → y s f = 0)) (hy : ∀ s, s < n → s < cuts → hrow y F s ≤ cap s) (hc : ∀ f, f < F → hcol y n f = hcol x n f) (hcost1 : hcost u y n F ≤ hcost u x n F) :
    (∀ s f, s < n → f < F → 0 < y s f → w f = u s f + r s) ∧ ∀ s, s < n → 0 < r s → hrow y F s = cap s := by
  have k := hq_CS h.1 h.2.1 h.rows hy0 (h.rowsy hy) hc hcost1
  refine ⟨k.1, fun s hs1 hr => ?_⟩
  have q := k.2 s hs1
  exact Int.eq_of_mul_eq_mul_left (by omega) q
end HCERT
/-! ===== the reference's networks ===== -/
abbrev hz_B (R : Nat → Int64) : Nat → Nat → Int := fun a b => (R (34 * a + b)).toInt
theorem hz_A {c0 c3 : Nat → Int64} {c1 : Nat → Nat → Int64} {wk : Nat → Nat} {wt : Nat → Int64} {n F : Nat} {R : Nat → Int64} (h : hl_R c0 c1 (hl_2 wk wt F) c3 R) : ∀ a b, a < 34 → b < 34 → hz_B R a b = hnA n F (fun s => (c0 s).toInt) (fun s f => (c1 s f).toInt) (fun f => (wt f).toInt) wk (fun w => (c3 w).toInt) a b := by
  intro a b ha hb
  show (R (34 * a + b)).toInt = _
  rw [h a b ha hb]
  unfold hl_v hnA hl_2
  by_cases c : a = 0
  · rw [if_pos c, if_pos c]
    by_cases k : 1 ≤ b ∧ b ≤ 12
    · rw [if_pos k, if_pos k]
    · rw [if_neg k, if_neg k, h64_0]
  · rw [if_neg c, if_neg c]
    by_cases c2 : a ≤ 12
    · rw [if_pos c2, if_pos c2]
      by_cases k : 13 ≤ b ∧ b ≤ 20
      · rw [if_pos k, if_pos k]
      · rw [if_neg k, if_neg k, h64_0]
    · rw [if_neg c2, if_neg c2]
      by_cases c3' : a ≤ 20
      · rw [if_pos c3', if_pos c3']
        by_cases k : 21 ≤ b ∧ b ≤ 32
        · rw [if_pos k, if_pos k]
          by_cases k2 : a - 13 < F ∧ b - 21 = wk (a - 13)
          · rw [if_pos k2, if_pos k2]
          · rw [if_neg k2, if_neg k2, h64_0]
        · rw [if_neg k, if_neg k, h64_0]
      · rw [if_neg c3', if_neg c3']
        by_cases c4 : a ≤ 32
        · rw [if_pos c4, if_pos c4]
          by_cases k : b = 33
          · rw [if_pos k, if_pos k]
          · rw [if_neg k, if_neg k, h64_0]
        · rw [if_neg c4, if_neg c4, h64_0]
/-- a distance is no more than its hops allow -/
theorem hz_near {R C : Nat → Int64} {src : Nat} {far : Nat → Int64} {bef : Nat → Int32} {dep : Nat → Nat} (hcb : hm_cb C) (h0 : (far src).toInt = 0) (h : hm_tree R C src far bef dep) : ∀ N v, dep v < N → hm_Rs far v → (far v).toInt ≤ 1000000 * (dep v : Int) := by
  intro N
  induction N with
  | zero => exact fun v h => absurd h (Nat.not_lt_zero _)
  | succ N ih =>
    intro v hN hv
    rcases h.2 v hv with e | ⟨u, k1, k2, k3, k4, k5⟩
    · rw [e, h0]
      omega
    · have a := ih u (by omega) k1
      have b := hcb (34 * u + v) (by have := k1.1; have := hv.1; omega)
      omega
theorem hz_far {R C : Nat → Int64} {pi : Nat → Int} {src : Nat} {r : (Nat → Int64) × (Nat → Int32)} (hcb : hm_cb C) (hpb : hm_pb pi) (hsrc : src < 34) (h : hm_Good R C pi src r) : (∀ v, hm_Rs r.1 v → (r.1 v).toInt ≤ 1000000000) ∧ ∀ a b, a < 34 → b < 34 → hm_Rs r.1 a → 0 < (R (34 * a + b)).toInt → hm_Rs r.1 b ∧ (r.1 b).toInt ≤ (r.1 a).toInt + (C (34 * a + b)).toInt := by
  obtain ⟨dep, ht⟩ := h.tree hcb hpb hsrc
  have hn : ∀ v, hm_Rs r.1 v → (r.1 v).toInt ≤ 1000000000 := by
    intro v hv
    have a := hz_near hcb h.1.1 ht (dep v + 1) v (Nat.lt_succ_self _) hv
    have b := ht.1 v
    omega
  refine ⟨hn, fun a b ha hb hra hp => ?_⟩
  have k := h.2 a b ha hb
  have c := hcb (34 * a + b) (by omega)
  have d := hn a hra
  have e := h.1.2.1 a ha
  have p1 := hpb a ha
  have p2 := hpb src hsrc
  have hadd : (r.1 a + C (34 * a + b)).toInt = (r.1 a).toInt + (C (34 * a + b)).toInt := h64_add (by have := hra.2; omega) (by omega)
  have q := k (by rw [h64_le, h64_nev]; have := hra.2; omega) (by rw [h64_le, h64_0]; omega)
  rw [h64_le, hadd] at q
  exact ⟨⟨hb, by omega⟩, q⟩
section HREF
variable {n F cuts VM1 : Nat} {NM0 NM1 NM2 : Nat → Nat} {IM0 : Nat → Int32} {cap wt mo : Nat → Int64} {un : Nat → Nat → Int64} {r : (Nat → Int64) × (Nat → Int64)}
/-- a flow over a laid network -/
theorem hz_is (hn12 : n ≤ 12) (hF : F ≤ 8) (hwk : ∀ i, NM2 i < 12) (h : hl_is (hl_0 cap n) (hl_t F (hl_sv VM1 NM0 NM1 NM2 IM0) (fun _ _ => 1000000000000) n 0) (hl_2 NM2 wt F) (hl_0 mo 12) (hl_t F (hl_sv VM1 NM0 NM1 NM2 IM0) un n 0) r)
    (hcap : ∀ s, s < n → cuts ≤ s → cap s = 1000000000000) (hwt : ∀ f, f < F → (wt f).toInt ≤ 10000000) (hmo : ∀ w, w < 12 → 0 ≤ (mo w).toInt) {R' : Nat → Int64} {v : Int} (hrb : hm_rb R') (hfl : hm_flow r.1 R' v) :
    hn_is n F cuts (fun s f => ¬ hl_sv VM1 NM0 NM1 NM2 IM0 s f = 0) (fun s => (cap s).toInt) (fun f => (wt f).toInt) NM2 (fun w => (mo w).toInt) (hz_B R') v := by
  have zM : (1000000000000 : Int64).toInt = 1000000000000 := by decide
  refine ⟨_, _, _, hz_B r.1, hz_A h.1, hn12, hF, fun f _ => hwk f, fun s f hc => ?_, fun s hs1 => ?_, fun a b ha hb => (hrb a b ha hb).1, fun a b ha hb => hfl.2 a b ha hb, fun a ha => ?_, fun s hs1 => ⟨fun hc => ?_, fun hc => ?_⟩, fun s f hs1 hf => ⟨fun hc => ?_, fun hc => ?_⟩, fun w hw => ⟨fun _ => ?_, Or.inl ?_⟩, hmo, ?_⟩
  · show (hl_t F (hl_sv VM1 NM0 NM1 NM2 IM0) (fun _ _ => 1000000000000) n 0 s f).toInt = 0
    unfold hl_t
    rw [if_neg (by omega), h64_0]
  · show (hl_0 cap n s).toInt = 0
    unfold hl_0
    rw [if_neg (by omega), h64_0]
  · rw [← ho_5, ← ho_5]
    exact hfl.1 a ha
  · show (hl_0 cap n s).toInt = _
    unfold hl_0
    rw [if_pos hs1]
  · show 1000000000000 ≤ (hl_0 cap n s).toInt
    unfold hl_0
    rw [if_pos hs1, hcap s hs1 hc, zM]
    omega
  · show 1000000000000 ≤ (hl_t F (hl_sv VM1 NM0 NM1 NM2 IM0) (fun _ _ => 1000000000000) n 0 s f).toInt
    unfold hl_t
    rw [if_pos ⟨Or.inl hs1, hf, hc⟩, zM]
    omega
  · show (hl_t F (hl_sv VM1 NM0 NM1 NM2 IM0) (fun _ _ => 1000000000000) n 0 s f).toInt = 0
    unfold hl_t
    rw [if_neg (fun q => hc q.2.2), h64_0]
  · show (hl_0 mo 12 w).toInt = (mo w).toInt
    unfold hl_0
    rw [if_pos hw]
  · show (hl_0 mo 12 w).toInt = (mo w).toInt
    unfold hl_0
    rw [if_pos hw]
  · have k : hs (fun f => (wt f).toInt) F ≤ hs (fun _ => (10000000 : Int)) F := hs_le hwt
    rw [hs_const] at k
    omega
/-- a potential over the rests, as prices -/
def hz_pot (n F : Nat) (sv : Nat → Nat → Prop) (u : Nat → Nat → Int) (B : Nat → Nat → Int) (pi : Nat → Int) : Prop :=
  (∀ s f, s < n → f < F → sv s f → pi (13 + f) ≤ pi (1 + s) + u s f) ∧ (∀ s f, s < n → f < F → 0 < B (13 + f) (1 + s) → pi (1 + s) ≤ pi (13 + f) - u s f) ∧ (∀ s, s < n → 0 < B 0 (1 + s) → pi (1 + s) ≤ pi 0) ∧ ∀ s, s < n → 0 < B (1 + s) 0 → pi 0 ≤ pi (1 + s)
theorem hz_cert {sv : Nat → Nat → Prop} {capi want most : Nat → Int} {wk : Nat → Nat} {u B : Nat → Nat → Int} {v : Int} {pi : Nat → Int} (h : hn_is n F cuts sv capi want wk most B v) (hp : hz_pot n F sv u B pi) :
    hq_cert n F cuts sv u (hn_x B) capi (fun f => pi (13 + f) - pi 0) (fun s => if pi (1 + s) - pi 0 ≤ 0 then 0 else pi (1 + s) - pi 0) := by
  obtain ⟨hPP1, q0, q1, q2, q3, q4, q5⟩ := hn_all h
  obtain ⟨p1, p2, p3, p4⟩ := hp
  refine ⟨fun s f hs1 hf hsv => ?_, fun s f hs1 hf => ⟨(hPP1.1 s f hs1 hf).1, fun hx => ?_⟩, fun s hs1 => ⟨?_, fun hr => ?_⟩⟩
  · show pi (13 + f) - pi 0 ≤ u s f + (if pi (1 + s) - pi 0 ≤ 0 then 0 else pi (1 + s) - pi 0)
    have a := p1 s f hs1 hf hsv
    by_cases c : pi (1 + s) - pi 0 ≤ 0
    · rw [if_pos c]; omega
    · rw [if_neg c]; omega
  · show pi (13 + f) - pi 0 = u s f + (if pi (1 + s) - pi 0 ≤ 0 then 0 else pi (1 + s) - pi 0)
    have hsv : sv s f := Classical.byContradiction (fun q => by
      have := (hPP1.1 s f hs1 hf).2 q
      omega)
    have a := p1 s f hs1 hf hsv
    have b := p2 s f hs1 hf hx
    have c : hn_x B s f ≤ hrow (hn_x B) F s := hs_elem (f := fun f => hn_x B s f) (fun f h => (hPP1.1 s f hs1 h).1) hf
    have d := p4 s hs1 (by rw [(q1 s hs1).1]; omega)
    by_cases c : pi (1 + s) - pi 0 ≤ 0
    · rw [if_pos c]; omega
    · rw [if_neg c]; omega
  · show 0 ≤ (if pi (1 + s) - pi 0 ≤ 0 then 0 else pi (1 + s) - pi 0)
    by_cases c : pi (1 + s) - pi 0 ≤ 0
    · rw [if_pos c]; omega
    · rw [if_neg c]; omega
  · have hr' : 0 < (if pi (1 + s) - pi 0 ≤ 0 then 0 else pi (1 + s) - pi 0) := hr
    by_cases c : pi (1 + s) - pi 0 ≤ 0
    · rw [if_pos c] at hr'; omega
    · have nB : ¬ 0 < B 0 (1 + s) := fun q => by
        have := p3 s hs1 q
        omega
      have k := q1 s hs1
      by_cases c2 : s < cuts
      · have e := k.2.1 c2
        have pp := hPP1.2.1 s hs1 c2
        exact ⟨c2, by omega⟩
      · exact absurd (k.2.2 (by omega)) nB
theorem hz_potof (hn12 : n ≤ 12) (hF : F ≤ 8) {d : Nat → Nat → Int64} {R C : Nat → Int64} {pi : Nat → Int} {sv : Nat → Nat → Prop} {u : Nat → Nat → Int} (hC : hl_C d C) (hu : ∀ s f, s < n → f < F → sv s f → (d s f).toInt = u s f) (hd : ∀ s f, s < n → f < F → -1000000 ≤ (d s f).toInt ∧ (d s f).toInt ≤ 1000000) (hp : hm_pot R C pi) (hfwd : ∀ s f, s < n → f < F → sv s f → 0 < hz_B R (1 + s) (13 + f)) (hback : ∀ s f, s < n → f < F → 0 < hz_B R (13 + f) (1 + s) → sv s f) : hz_pot n F sv u (hz_B R) pi := by
  refine ⟨fun s f hs1 hf hsv => ?_, fun s f hs1 hf hx => ?_, fun s hs1 hx => ?_, fun s hs1 hx => ?_⟩
  · have k := hp (1 + s) (13 + f) (by omega) (by omega) (hfwd s f hs1 hf hsv)
    rw [hC _ _ (by omega) (by omega)] at k
    unfold hl_w at k
    rw [if_pos (by omega), show 1 + s - 1 = s by omega, show 13 + f - 13 = f by omega, hu s f hs1 hf hsv] at k
    exact k
  · have k := hp (13 + f) (1 + s) (by omega) (by omega) hx
    rw [hC _ _ (by omega) (by omega)] at k
    unfold hl_w at k
    have b := hd s f hs1 hf
    rw [if_neg (by omega), if_pos (by omega), show 1 + s - 1 = s by omega, show 13 + f - 13 = f by omega, h64_neg (by omega), hu s f hs1 hf (hback s f hs1 hf hx)] at k
    omega
  · have k := hp 0 (1 + s) (by omega) (by omega) hx
    rw [hC _ _ (by omega) (by omega)] at k
    unfold hl_w at k
    rw [if_neg (by omega), if_neg (by omega), h64_0] at k
    omega
  · have k := hp (1 + s) 0 (by omega) (by omega) hx
    rw [hC _ _ (by omega) (by omega)] at k
    unfold hl_w at k
    rw [if_neg (by omega), if_neg (by omega), h64_0] at k
    omega
end HREF
