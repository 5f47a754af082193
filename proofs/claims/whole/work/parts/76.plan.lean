/-! ===== the class's plan is the first of the best ===== -/
theorem hR_uniq {n F cuts : Nat} {sv : Nat → Nat → Prop} {cap want : Nat → Int} {u : Nat → Nat → Int} {K : Int} {x z : Nat → Nat → Int} (hx : hz_Opt n F cuts sv cap want u K x) (hz : hz_Opt n F cuts sv cap want u K z) (lx : ∀ s f, s < n → f < F → hz_lx n F cuts sv cap want u K x s f) (lz : ∀ s f, s < n → f < F → hz_lx n F cuts sv cap want u K z s f) : ∀ (N s f : Nat), s * F + f < N → s < n → f < F → x s f = z s f := by
  intro N
  induction N with
  | zero => exact fun s f h => absurd h (Nat.not_lt_zero _)
  | succ N ih =>
    intro s f hN hs1 hf
    have ag : ∀ s' f', s' < n → f' < F → (s' < s ∨ (s' = s ∧ f' < f)) → x s' f' = z s' f' := by
      intro s' f' h1 h2 h3
      refine ih s' f' ?_ h1 h2
      rcases h3 with q | ⟨q, q'⟩
      · have e : (s' + 1) * F ≤ s * F := Nat.mul_le_mul_right F q
        rw [Nat.add_mul, Nat.one_mul] at e
        omega
      · subst q; omega
    have a := lx s f hs1 hf z hz (fun s' f' h1 h2 h3 => (ag s' f' h1 h2 h3).symm)
    have b := lz s f hs1 hf x hx ag
    omega
section HPLAN
variable {n F cuts : Nat} {sv : Nat → Nat → Prop} {u : Nat → Nat → Int} {C want : Nat → Int} {LP0 LP1 LP2 LP3 : Nat → Int64}
/-- the units of a plan are those of the site -/
def hR_U (n F : Nat) (sv : Nat → Nat → Prop) (u : Nat → Nat → Int) (LP0 : Nat → Int64) : Prop := (∀ s f, s < n → f < F → (sv s f → ¬ LP0 (s * 9 + f) = -1 ∧ (LP0 (s * 9 + f)).toInt = u s f) ∧ (¬ sv s f → LP0 (s * 9 + f) = -1)) ∧ (∀ s c, s < n → F ≤ c → c < 8 → LP0 (s * 9 + c) = -1) ∧ ∀ s, s < n → LP0 (s * 9 + 8) = 0
theorem hR_small (hS : hk_S n F LP0 C want LP1 LP2 LP3) {s f : Nat} (hs1 : s < n) : hrow (hk_X LP1) F s ≤ hs want F ∧ (f < F → hk_X LP1 s f ≤ hs want F) := hn_small (x := hk_X LP1) (fun s f a b => hS.1.nn a b) (fun f hf => by rw [hS.2.2 f hf]; exact Int.le_refl _) hs1
theorem hR_row (hS : hk_S n F LP0 C want LP1 LP2 LP3) {s : Nat} (hs1 : s < n) : hrow (hk_X LP1) F s ≤ C s := by
  have a := hS.2.1 s hs1
  have b := (hS.1.2.1 s hs1).1
  unfold hk_tot at a
  omega
theorem hR_sv (hU : hR_U n F sv u LP0) (hS : hk_S n F LP0 C want LP1 LP2 LP3) {s f : Nat} (hs1 : s < n) (hf : f < F) : 0 ≤ hk_X LP1 s f ∧ (¬ sv s f → hk_X LP1 s f = 0) := by
  refine ⟨hS.1.nn hs1 hf, fun q => ?_⟩
  rcases hS.1.1 s f hs1 hf with k | k
  · exact k.2
  · exact absurd ((hU.1 s f hs1 hf).2 q) k.1
theorem hR_cert (hU : hR_U n F sv u LP0) (hS : hk_S n F LP0 C want LP1 LP2 LP3) (hpit : ∀ s, s < n → cuts ≤ s → hs want F < C s) : hq_cert n F cuts sv u (hk_X LP1) C (fun f => (LP3 f).toInt) (fun s => (LP2 s).toInt) := by
  refine ⟨fun s f hs1 hf hsv => ?_, fun s f hs1 hf => ⟨hS.1.nn hs1 hf, fun hp => ?_⟩, fun s hs1 => ⟨(hS.1.2.1 s hs1).2.1, fun hr => ?_⟩⟩
  · have q := (hU.1 s f hs1 hf).1 hsv
    rcases hS.1.1 s f hs1 hf with k | k
    · exact absurd k.1 q.1
    · show (LP3 f).toInt ≤ u s f + (LP2 s).toInt
      rw [← q.2]
      exact k.2.2.2.2.1
  · have hsv : sv s f := Classical.byContradiction (fun q => by have := (hR_sv hU hS hs1 hf).2 q; omega)
    have q := (hU.1 s f hs1 hf).1 hsv
    rcases hS.1.1 s f hs1 hf with k | k
    · exact absurd k.1 q.1
    · show (LP3 f).toInt = u s f + (LP2 s).toInt
      rw [← q.2]
      exact k.2.2.2.2.2 hp
  · have kr := hS.1.2.1 s hs1
    have hr' : 0 < (LP2 s).toInt := hr
    have z : hk_X LP1 s 8 = 0 := by
      by_cases c : 0 < hk_X LP1 s 8
      · have := kr.2.2.2 c
        omega
      · omega
    have a := hS.2.1 s hs1
    unfold hk_tot at a
    refine ⟨?_, by omega⟩
    refine Classical.byContradiction (fun q => ?_)
    have b := hpit s hs1 (by omega)
    have c := (hR_small (f := 0) hS hs1).1
    omega
abbrev hR_T (LP0 LP2 LP3 : Nat → Int64) : Nat → Nat → Prop := fun s c => ¬ f_Plan_isFree LP0 LP2 LP3 s c = 0
theorem hR_Tc (hU : hR_U n F sv u LP0) (hD : hk_D n F LP0 LP1 LP2 LP3) {s f : Nat} (hs1 : s < n) (hf : f < F) : hR_T LP0 LP2 LP3 s f ↔ sv s f ∧ (LP3 f).toInt = u s f + (LP2 s).toInt := by
  unfold hR_T f_Plan_isFree
  have kr := hD.2.1 s hs1
  by_cases c : LP0 (s * 9 + f) = -1
  · rw [if_pos c]
    constructor
    · intro h
      exact absurd (show nI 0 = 0 by decide) h
    · intro h
      exact absurd c ((hU.1 s f hs1 hf).1 h.1).1
  · rw [if_neg c]
    have hsv : sv s f := Classical.byContradiction (fun q => c ((hU.1 s f hs1 hf).2 q))
    have q := ((hU.1 s f hs1 hf).1 hsv).2
    have b : 0 ≤ (LP0 (s * 9 + f)).toInt ∧ (LP0 (s * 9 + f)).toInt ≤ 200000 := by
      rcases hD.1 s f hs1 hf with k | k
      · exact absurd k.1 c
      · exact ⟨k.2.1, k.2.2.1⟩
    have e : (LP0 (s * 9 + f) + LP2 s).toInt = u s f + (LP2 s).toInt := by rw [h64_add (by omega) (by omega), q]
    by_cases d : LP0 (s * 9 + f) + LP2 s = LP3 f
    · rw [if_pos d]
      exact ⟨fun _ => ⟨hsv, by rw [← d]; exact e⟩, fun _ => by decide⟩
    · rw [if_neg d]
      constructor
      · intro h
        exact absurd (show nI 0 = 0 by decide) h
      · intro h
        exact absurd (Int64.toInt_inj.mp (by rw [e]; exact h.2.symm)) d
theorem hR_T8 (hU : hR_U n F sv u LP0) (hZ : LP3 8 = 0) {s : Nat} (hs1 : s < n) : hR_T LP0 LP2 LP3 s 8 ↔ (LP2 s).toInt = 0 := by
  unfold hR_T f_Plan_isFree
  rw [hU.2.2 s hs1, if_neg (by decide), Int64.zero_add, hZ]
  by_cases d : LP2 s = 0
  · rw [if_pos d, d]
    exact ⟨fun _ => h64_0, fun _ => by decide⟩
  · rw [if_neg d]
    constructor
    · intro h
      exact absurd (show nI 0 = 0 by decide) h
    · intro h
      exact absurd (Int64.toInt_inj.mp (by rw [h, h64_0])) d
theorem hR_Tu (hU : hR_U n F sv u LP0) {s c : Nat} (hs1 : s < n) (h1 : F ≤ c) (h2 : c < 8) : ¬ hR_T LP0 LP2 LP3 s c := by
  unfold hR_T f_Plan_isFree
  rw [hU.2.1 s c hs1 h1 h2, if_pos rfl]
  decide
theorem hs9 {X : Nat → Nat → Int} {s : Nat} (hF : F ≤ 8) (hz : ∀ c, F ≤ c → c < 8 → X s c = 0) : hrow X 9 s = hk_tot X F s := by
  show hs (fun f => X s f) 8 + X s 8 = X s 8 + hrow X F s
  rw [hs_trunc hF (fun i h1 h2 => hz i h1 h2)]
  show hrow X F s + X s 8 = _
  omega
/-- what is left in all -/
def hR_G (n F : Nat) (C want : Nat → Int) (c : Nat) : Int := if c < F then want c else if c = 8 then hs C n - hs want F else 0
theorem hR_P {y : Nat → Nat → Int} (hF : F ≤ 8) {T : Nat → Nat → Prop} (h1 : ∀ s f, s < n → f < F → 0 ≤ y s f ∧ (0 < y s f → T s f)) (h2' : ∀ s, s < n → hrow y F s ≤ C s ∧ (hrow y F s < C s → T s 8)) (h3 : ∀ f, f < F → hcol y n f = want f) :
    hf_P n T C (hR_G n F C want) (fun s c => if c < F then y s c else if c = 8 then C s - hrow y F s else 0) := by
  have er : ∀ s, hrow (fun s c => if c < F then y s c else if c = 8 then C s - hrow y F s else 0) F s = hrow y F s := fun s => hrow_congr (fun f hf => by rw [if_pos hf])
  refine ⟨fun s c hs1 hc => ?_, fun s hs1 => ?_, fun c hc => ?_⟩
  · show 0 ≤ (if c < F then y s c else if c = 8 then C s - hrow y F s else 0) ∧ (0 < (if c < F then y s c else if c = 8 then C s - hrow y F s else 0) → T s c)
    by_cases q : c < F
    · rw [if_pos q]; exact h1 s c hs1 q
    · rw [if_neg q]
      by_cases q2 : c = 8
      · rw [if_pos q2, q2]
        have k := h2' s hs1
        exact ⟨by omega, fun z => k.2 (by omega)⟩
      · rw [if_neg q2]
        exact ⟨Int.le_refl _, fun z => absurd z (by omega)⟩
  · rw [hs9 hF (fun c q1 q2 => by rw [if_neg (by omega), if_neg (by omega)])]
    unfold hk_tot
    rw [er s]
    show (if 8 < F then y s 8 else if 8 = 8 then C s - hrow y F s else 0) + hrow y F s = C s
    rw [if_neg (show ¬ 8 < F by omega), if_pos rfl]
    omega
  · unfold hR_G
    by_cases q : c < F
    · rw [if_pos q, ← h3 c q]
      exact hcol_congr (fun s _ => by rw [if_pos q])
    · rw [if_neg q]
      by_cases q2 : c = 8
      · rw [if_pos q2]
        have e : hcol (fun s c => if c < F then y s c else if c = 8 then C s - hrow y F s else 0) n c = hs (fun s => C s - hrow y F s) n := hs_congr (fun s _ => by show (if c < F then y s c else if c = 8 then C s - hrow y F s else 0) = _; rw [if_neg q, if_pos q2])
        rw [e, hs_sub]
        have e2 : hs (fun s => hrow y F s) n = hs want F := by
          rw [← h2_rows, h2_cols]
          exact hs_congr h3
        rw [e2]
      · rw [if_neg q2]
        exact hs_zero (fun s _ => by show (if c < F then y s c else if c = 8 then C s - hrow y F s else 0) = 0; rw [if_neg q, if_neg q2])
/-- makeFirst() after makeCheapest() -/
theorem hR_first (hn12 : n ≤ 12) (hF : F ≤ 8) (hU : hR_U n F sv u LP0) (hS : hk_S n F LP0 C want LP1 LP2 LP3) (hZ : hk_Z n F LP1 LP3) (hC : ∀ s, s < n → C s ≤ 2000000000000) (hpit : ∀ s, s < n → cuts ≤ s → hs want F < C s) (hw : ∀ f, f < F → want f ≤ 1000000) (q : Nat) (queue : Nat → Nat) (bef : Nat → Int32) :
    hk_S n F LP0 C want (f_Plan_makeFirst n F q queue LP0 LP1 LP2 LP3 bef).1 LP2 LP3 ∧ hk_Z n F (f_Plan_makeFirst n F q queue LP0 LP1 LP2 LP3 bef).1 LP3 ∧
    ∀ s f, s < n → f < F → hz_lx n F cuts sv C want u (hcost u (hk_X (f_Plan_makeFirst n F q queue LP0 LP1 LP2 LP3 bef).1) n F) (hk_X (f_Plan_makeFirst n F q queue LP0 LP1 LP2 LP3 bef).1) s f := by
  have hX0 : hf_P n (hR_T LP0 LP2 LP3) C (hR_G n F C want) (hk_X LP1) := by
    refine ⟨fun s c hs1 hc => ?_, fun s hs1 => ?_, fun c hc => ?_⟩
    · by_cases k : c < F
      · refine ⟨hS.1.nn hs1 k, fun hp => (hR_Tc hU hS.1 hs1 k).mpr ?_⟩
        have ct := hR_cert hU hS hpit
        refine ⟨Classical.byContradiction (fun z => by have := (hR_sv hU hS hs1 k).2 z; omega), (ct.2.1 s c hs1 k).2 hp⟩
      · by_cases k2 : c = 8
        · subst k2
          have kr := hS.1.2.1 s hs1
          exact ⟨kr.1, fun hp => (hR_T8 hU hZ.2 hs1).mpr (kr.2.2.2 hp)⟩
        · rw [hZ.1 s c hs1 (by omega) (by omega)]
          exact ⟨Int.le_refl _, fun z => absurd z (by omega)⟩
    · rw [hs9 hF (fun c q1 q2 => hZ.1 s c hs1 q1 q2)]
      exact hS.2.1 s hs1
    · unfold hR_G
      by_cases k : c < F
      · rw [if_pos k]; exact hS.2.2 c k
      · rw [if_neg k]
        by_cases k2 : c = 8
        · rw [if_pos k2, k2]
          have e : hcol (hk_X LP1) n 8 = hs (fun s => C s - hrow (hk_X LP1) F s) n := hs_congr (fun s hs1 => by
            have := hS.2.1 s hs1
            unfold hk_tot at this
            omega)
          have e2 : hs (fun s => hrow (hk_X LP1) F s) n = hs want F := by
            rw [← h2_rows, h2_cols]
            exact hs_congr hS.2.2
          rw [e, hs_sub, e2]
        · rw [if_neg k2]
          exact hs_zero (fun s hs1 => hZ.1 s c hs1 (by omega) (by omega))
  obtain ⟨X', a1, a2, a3⟩ := hf_first (T := hR_T LP0 LP2 LP3) (C := C) (G := hR_G n F C want) hn12 (fun _ _ => Iff.rfl) hC hF (fun f hf => by unfold hR_G; rw [if_pos hf]; exact hw f hf) (L := LP1) (X := hk_X LP1) (fun s f _ _ => rfl) hX0 q queue bef
  generalize (f_Plan_makeFirst n F q queue LP0 LP1 LP2 LP3 bef).1 = L' at *
  have ec : ∀ s c, s < n → c < 9 → hk_X L' s c = X' s c := fun s c h1 h2 => a1 s c (by omega) h2
  have zu : ∀ s c, s < n → F ≤ c → c < 8 → X' s c = 0 := by
    intro s c h1 h2 h3
    have k := a2.1 s c h1 (by omega)
    by_cases p : 0 < X' s c
    · exact absurd (k.2 p) (hR_Tu hU h1 h2 h3)
    · omega
  have hZ' : hk_Z n F L' LP3 := ⟨fun s c h1 h2 h3 => by rw [ec s c h1 (by omega)]; exact zu s c h1 h2 h3, hZ.2⟩
  have hS' : hk_S n F LP0 C want L' LP2 LP3 := by
    refine ⟨⟨fun s f h1 h2 => ?_, fun s h1 => ?_, hS.1.2.2⟩, fun s h1 => ?_, fun f h1 => ?_⟩
    · rw [ec s f h1 (by omega)]
      have k := a2.1 s f h1 (by omega)
      rcases hS.1.1 s f h1 h2 with c | ⟨c1, c2, c3, c4, c5, c6⟩
      · refine Or.inl ⟨c.1, ?_⟩
        by_cases p : 0 < X' s f
        · have t := (hR_Tc hU hS.1 h1 h2).mp (k.2 p)
          exact absurd c.1 ((hU.1 s f h1 h2).1 t.1).1
        · omega
      · refine Or.inr ⟨c1, c2, c3, k.1, c5, fun p => ?_⟩
        have t := (hR_Tc hU hS.1 h1 h2).mp (k.2 p)
        rw [((hU.1 s f h1 h2).1 t.1).2]
        exact t.2
    · rw [ec s 8 h1 (by omega)]
      have k := a2.1 s 8 h1 (by omega)
      have kr := hS.1.2.1 s h1
      exact ⟨k.1, kr.2.1, kr.2.2.1, fun p => (hR_T8 hU hZ.2 h1).mp (k.2 p)⟩
    · have e : hk_tot (hk_X L') F s = hk_tot X' F s := by
        unfold hk_tot
        rw [ec s 8 h1 (by omega), hrow_congr (fun f hf => ec s f h1 (by omega))]
      rw [e, ← hs9 hF (fun c q1 q2 => zu s c h1 q1 q2)]
      exact a2.2.1 s h1
    · rw [hcol_congr (fun s h2 => ec s f h2 (by omega)), a2.2.2 f (by omega)]
      unfold hR_G
      rw [if_pos h1]
  refine ⟨hS', hZ', fun s f hs1 hf y hy hag => ?_⟩
  obtain ⟨y1, y2, y3, y4⟩ := hy
  have ct := hR_cert (cuts := cuts) hU hS' hpit
  have ycol : ∀ f, f < F → hcol y n f = hcol (hk_X L') n f := fun f hf => by rw [y3 f hf, hS'.2.2 f hf]
  have tt := ct.tight y1 y2 ycol y4
  have yrow : ∀ s, s < n → hrow y F s ≤ C s := by
    intro s h1
    by_cases c : s < cuts
    · exact y2 s h1 c
    · have a := hpit s h1 (by omega)
      have b := (hn_small (x := y) (s := s) (f := 0) (fun s f a b => (y1 s f a b).1) (fun f hf => by rw [y3 f hf]; exact Int.le_refl _) h1).1
      omega
  have hYP := hR_P (C := C) (want := want) (T := hR_T LP0 LP2 LP3) (y := y) hF (fun s f h1 h2 => ⟨(y1 s f h1 h2).1, fun p => (hR_Tc hU hS.1 h1 h2).mpr ⟨Classical.byContradiction (fun z => by have := (y1 s f h1 h2).2 z; omega), tt.1 s f h1 h2 p⟩⟩) (fun s h1 => ⟨yrow s h1, fun p => (hR_T8 hU hZ.2 h1).mpr (by
      have kr := (hS'.1.2.1 s h1).2.1
      by_cases c : 0 < (LP2 s).toInt
      · have := tt.2 s h1 c
        omega
      · omega)⟩) y3
  have k := a3 s f hs1 hf _ hYP ⟨fun s' c h1 h2 => ?_, fun c h1 => ?_⟩
  · have k' : (if f < F then y s f else if f = 8 then C s - hrow y F s else 0) ≤ X' s f := k
    rw [if_pos hf] at k'
    rw [ec s f hs1 (by omega)]
    exact k'
  · show (if c < F then y s' c else if c = 8 then C s' - hrow y F s' else 0) = X' s' c
    by_cases q1 : c < F
    · rw [if_pos q1, hag s' c (by omega) q1 (Or.inl h1)]
      exact ec s' c (by omega) (by omega)
    · rw [if_neg q1]
      by_cases q2 : c = 8
      · rw [if_pos q2, q2]
        have e1 : hrow y F s' = hrow (hk_X L') F s' := hrow_congr (fun f' hf' => hag s' f' (by omega) hf' (Or.inl h1))
        have e2 := hS'.2.1 s' (by omega)
        unfold hk_tot at e2
        rw [e1, ← ec s' 8 (by omega) (by omega)]
        omega
      · rw [if_neg q2]
        exact (zu s' c (by omega) (by omega) (by omega)).symm
  · show (if c < F then y s c else if c = 8 then C s - hrow y F s else 0) = X' s c
    rw [if_pos (by omega), hag s c hs1 (by omega) (Or.inr ⟨rfl, h1⟩)]
    exact ec s c hs1 (by omega)
end HPLAN
