section HORDER3
variable {n F cuts VM1 : Nat} {NM0 NM1 NM2 : Nat → Nat} {IM0 : Nat → Int32} {capi want : Nat → Int} {wk : Nat → Nat} {most : Nat → Int} {u : Nat → Nat → Int} {K : Int} {C : Nat → Int64} {d : Nat → Nat → Int64} {pi : Nat → Int}
theorem hz_lx_keep {sv : Nat → Nat → Prop} {z z' : Nat → Nat → Int} {s f : Nat} (h : hz_lx n F cuts sv capi want u K z s f) (he : ∀ s' f', s' < n → f' < F → (s' < s ∨ (s' = s ∧ f' ≤ f)) → z' s' f' = z s' f') (hs1 : s < n) (hf : f < F) : hz_lx n F cuts sv capi want u K z' s f := by
  intro y hy hag
  rw [he s f hs1 hf (by omega)]
  exact h y hy (fun s' f' h1 h2 h3 => (hag s' f' h1 h2 h3).trans (he s' f' h1 h2 (by omega)))
abbrev hz_svp (VM1 : Nat) (NM0 NM1 NM2 : Nat → Nat) (IM0 : Nat → Int32) : Nat → Nat → Prop := fun s f => ¬ hl_sv VM1 NM0 NM1 NM2 IM0 s f = 0
theorem hz_99 (hC : hl_C d C) (hu : ∀ s f, s < n → f < F → hz_svp VM1 NM0 NM1 NM2 IM0 s f → (d s f).toInt = u s f) (hd : ∀ s f, s < n → f < F → -1000000 ≤ (d s f).toInt ∧ (d s f).toInt ≤ 1000000) (hKmin : ∀ y, (∀ s f, s < n → f < F → 0 ≤ y s f ∧ (¬ hz_svp VM1 NM0 NM1 NM2 IM0 s f → y s f = 0)) → (∀ s, s < n → s < cuts → hrow y F s ≤ capi s) → (∀ f, f < F → hcol y n f = want f) → K ≤ hcost u y n F) {S X : Nat} (hS : S < n) (hX : X < F) (hsv : hz_svp VM1 NM0 NM1 NM2 IM0 S X) {Bt0 : Nat → Nat → Int} {Post : (Nat → Int64) × (Nat → Int64) × (Nat → Int64) × (Nat → Int32) → Prop} {k : Int64 → (Nat → Int64) → (Nat → Int64) → (Nat → Int32) → (Nat → Int64) × (Nat → Int64) × (Nat → Int64) × (Nat → Int32)}
    (hk : ∀ x5 R far bef Bt, hz_O n F cuts (hz_svp VM1 NM0 NM1 NM2 IM0) capi want wk most u C pi S (X + 1) R Bt → Bt (13 + X) (1 + S) = x5.toInt → (∀ a b, a < 34 → b < 34 → hz_fz S X a b → Bt a b = Bt0 a b) → hz_lx n F cuts (hz_svp VM1 NM0 NM1 NM2 IM0) capi want u K (hn_x Bt) S X → Post (k x5 R far bef)) :
    ∀ (m : Nat) (x5 : Int64) (R far : Nat → Int64) (bef : Nat → Int32) (Bt : Nat → Nat → Int), (ho R (13 + X)).toNat < m → hz_O n F cuts (hz_svp VM1 NM0 NM1 NM2 IM0) capi want wk most u C pi S (X + 1) R Bt → Bt (13 + X) (1 + S) = x5.toInt → (∀ a b, a < 34 → b < 34 → hz_fz S X a b → Bt a b = Bt0 a b) → hm_Good R C pi (13 + X) (far, bef) → Post (f_Model_order_h99 S C X k m x5 R far bef) := by
  intro m
  induction m with
  | zero => exact fun x5 R far bef Bt h => absurd h (Nat.not_lt_zero _)
  | succ m ih =>
    intro x5 R far bef Bt hm hO hx hag hG
    obtain ⟨hn12, hF, hwt⟩ := hO.n12
    obtain ⟨hPPt, -⟩ := hn_all hO.1
    rw [f_Model_order_h99]
    unfold f_Model_order_h99B
    by_cases c : far (1 + S) = -(C (34 * (1 + S) + 13 + X))
    · rw [if_pos c, hh_bind, hh_bind]
      obtain ⟨s1, s2, s3, Bt', t1, t2, t3⟩ := hz_step hC hu hd hO hS hX hsv hG c
      have hx8 : Bt (13 + X) (1 + S) ≤ hs want F := (hn_small (x := hn_x Bt) (s := S) (f := X) (fun s f h1 h2 => (hPPt.1 s f h1 h2).1) hPPt.2.2.1 hS).2 hX
      have hx0 : 0 ≤ Bt (13 + X) (1 + S) := (hPPt.1 S X hS hX).1
      have hh := hm_ho hO.2.2.1.2.2.1 (show 13 + X < 34 by omega)
      refine ih _ _ _ _ Bt' ?_ t1 ?_ (fun a b ha hb hf => (t3 a b ha hb hf).trans (hag a b ha hb hf)) (hm_measure t1.2.2.1.1 t1.2.2.1.2.1 t1.2.2.1.pb (by omega) far bef)
      · have hh2 := hm_ho t1.2.2.1.2.2.1 (show 13 + X < 34 by omega)
        omega
      · rw [t2, h64_add (by omega) (by omega), hx]
    · rw [if_neg c]
      refine hk _ _ _ _ Bt hO hx hag (hz_lexcut hC hu hd hO hS hX hsv hG c ?_)
      exact hKmin _ hPPt.1 hPPt.2.1 hO.full
/-- between two cells -/
def hz_W (n F cuts : Nat) (sv : Nat → Nat → Prop) (capi want : Nat → Int) (wk : Nat → Nat) (most : Nat → Int) (u : Nat → Nat → Int) (K : Int) (C : Nat → Int64) (pi : Nat → Int) (S X : Nat) (P R : Nat → Int64) : Prop :=
  ∃ Bt, hz_O n F cuts sv capi want wk most u C pi S X R Bt ∧ (∀ s f, s < n → f < F → (s < S ∨ (s = S ∧ f < X)) → (P (8 * s + f)).toInt = hn_x Bt s f) ∧ ∀ s f, s < n → f < F → (s < S ∨ (s = S ∧ f < X)) → hz_lx n F cuts sv capi want u K (hn_x Bt) s f
theorem hz_W_row {sv : Nat → Nat → Prop} {S X : Nat} {P R : Nat → Int64} (hX : F ≤ X) (h : hz_W n F cuts sv capi want wk most u K C pi S X P R) : hz_W n F cuts sv capi want wk most u K C pi (S + 1) 0 P R := by
  obtain ⟨Bt, hO, hP, hl⟩ := h
  obtain ⟨hn12, hF, hwt⟩ := hO.n12
  obtain ⟨hN, h2, h3, hfz⟩ := hO
  obtain ⟨hPPt, q0, q1, q2, q3, q4, q5⟩ := hn_all hN
  have Bnn : ∀ a b, a < 34 → b < 34 → 0 ≤ Bt a b := by
    obtain ⟨c0, c1, c3, A, a1, a2, a3, a4, a5, a6, a7, -⟩ := hN
    exact a7
  refine ⟨Bt, ⟨hN, h2, h3, fun a b ha hb => ⟨fun hf => ?_, fun hf => ?_⟩⟩, fun s f h1 h2 h3 => hP s f h1 h2 (by omega), fun s f h1 h2 h3 => hl s f h1 h2 (by omega)⟩
  · by_cases c : hz_fz S X a b
    · exact (hfz a b ha hb).1 c
    · rw [(hfz a b ha hb).2 c]
      have nn := Bnn a b ha hb
      by_cases p : 0 < Bt a b
      · exfalso
        unfold hz_fz at hf c
        rcases q5 a b ha hb p with ⟨e1, s, e2, e3⟩ | ⟨e1, s, e2, e3⟩ | ⟨s, f, e1, e2, e3, e4⟩ | ⟨s, f, e1, e2, e3, e4⟩ | ⟨f, e1, e2, e3⟩ | ⟨f, e1, e2, e3⟩ | ⟨w, e1, e2, e3⟩ | ⟨w, e1, e2, e3⟩ <;> omega
      · omega
  · refine (hfz a b ha hb).2 (fun c => hf ?_)
    unfold hz_fz at c ⊢
    omega
theorem hz_17 (hC : hl_C d C) (hu : ∀ s f, s < n → f < F → hz_svp VM1 NM0 NM1 NM2 IM0 s f → (d s f).toInt = u s f) (hd : ∀ s f, s < n → f < F → -1000000 ≤ (d s f).toInt ∧ (d s f).toInt ≤ 1000000) (hKmin : ∀ y, (∀ s f, s < n → f < F → 0 ≤ y s f ∧ (¬ hz_svp VM1 NM0 NM1 NM2 IM0 s f → y s f = 0)) → (∀ s, s < n → s < cuts → hrow y F s ≤ capi s) → (∀ f, f < F → hcol y n f = want f) → K ≤ hcost u y n F) {S : Nat} (hS : S < n) {Post : (Nat → Int64) × (Nat → Int64) × (Nat → Int64) × (Nat → Int32) → Prop} {k : Nat → (Nat → Int64) → (Nat → Int64) → (Nat → Int64) → (Nat → Int32) → (Nat → Int64) × (Nat → Int64) × (Nat → Int64) × (Nat → Int32)}
    (hk : ∀ x P R far bef, hz_W n F cuts (hz_svp VM1 NM0 NM1 NM2 IM0) capi want wk most u K C pi (S + 1) 0 P R → Post (k x P R far bef)) :
    ∀ (m X : Nat) (P R far : Nat → Int64) (bef : Nat → Int32), F - X < m → X ≤ F → hz_W n F cuts (hz_svp VM1 NM0 NM1 NM2 IM0) capi want wk most u K C pi S X P R → Post (f_Model_order_h17 F VM1 NM0 NM1 NM2 IM0 S C k m X P R far bef) := by
  intro m
  induction m with
  | zero => exact fun X P R far bef h => absurd h (Nat.not_lt_zero _)
  | succ m ih =>
    intro X P R far bef hm hX hW
    rw [f_Model_order_h17]
    unfold f_Model_order_h17B
    by_cases c : F ≤ X
    · rw [if_pos c]
      exact hk _ _ _ _ _ (hz_W_row c hW)
    · rw [if_neg c, hh_bind]
      obtain ⟨Bt, hO, hP, hl⟩ := hW
      obtain ⟨hn12, hF, hwt⟩ := hO.n12
      obtain ⟨hN, hpot, hOrd, hfz⟩ := id hO
      obtain ⟨hPPt, q0, q1, q2, q3, q4, q5⟩ := hn_all hN
      -- the next state
      have nxt : ∀ (x5 : Int64) (R' : Nat → Int64) (Bt' : Nat → Nat → Int), hz_O n F cuts (hz_svp VM1 NM0 NM1 NM2 IM0) capi want wk most u C pi S (X + 1) R' Bt' → Bt' (13 + X) (1 + S) = x5.toInt → (∀ a b, a < 34 → b < 34 → hz_fz S X a b → Bt' a b = Bt a b) → hz_lx n F cuts (hz_svp VM1 NM0 NM1 NM2 IM0) capi want u K (hn_x Bt') S X → hz_W n F cuts (hz_svp VM1 NM0 NM1 NM2 IM0) capi want wk most u K C pi S (X + 1) (vp_updL P (8 * S + X) x5) R' := by
        intro x5 R' Bt' t1 t2 t3 t4
        have same : ∀ s f, s < n → f < F → (s < S ∨ (s = S ∧ f < X)) → hn_x Bt' s f = hn_x Bt s f := fun s f h1 h2 h3 => t3 (13 + f) (1 + s) (by omega) (by omega) (Or.inr ⟨by omega, by omega, by omega⟩)
        refine ⟨Bt', t1, fun s f h1 h2 h3 => ?_, fun s f h1 h2 h3 => ?_⟩
        · by_cases e : s = S ∧ f = X
          · obtain ⟨rfl, rfl⟩ := e
            rw [hp_updL]
            exact t2.symm
          · rw [hp_updLn _ _ (by omega), hP s f h1 h2 (by omega)]
            exact (same s f h1 h2 (by omega)).symm
        · by_cases e : s = S ∧ f = X
          · obtain ⟨rfl, rfl⟩ := e
            exact t4
          · exact hz_lx_keep (hl s f h1 h2 (by omega)) (fun s' f' a1 a2 a3 => same s' f' a1 a2 (by omega)) h1 h2
      by_cases e : f_Model_serves VM1 NM0 NM1 NM2 IM0 S X = 0
      · rw [if_pos e]
        have nsv : ¬ hz_svp VM1 NM0 NM1 NM2 IM0 S X := fun q => q e
        have z1 : Bt (13 + X) (1 + S) = 0 := (hPPt.1 S X hS (by omega)).2 nsv
        have z2 : Bt (1 + S) (13 + X) = 0 := (q2 S X hS (by omega)).2 nsv
        refine ih (X + 1) _ _ _ _ (by omega) (by omega) (nxt 0 R Bt ⟨hN, hpot, hOrd, fun a b ha hb => ⟨fun hf => ?_, fun hf => ?_⟩⟩ (by rw [z1, h64_0]) (fun _ _ _ _ _ => rfl) (fun y hy _ => ?_))
        · by_cases c' : hz_fz S X a b
          · exact (hfz a b ha hb).1 c'
          · rw [(hfz a b ha hb).2 c']
            unfold hz_fz at hf c'
            rcases hf with ⟨w1, w2, w3⟩ | ⟨w1, w2, w3⟩
            · rw [show a = 1 + S by omega, show b = 13 + X by omega]; exact z2
            · rw [show a = 13 + X by omega, show b = 1 + S by omega]; exact z1
        · refine (hfz a b ha hb).2 (fun c' => hf ?_)
          unfold hz_fz at c' ⊢
          omega
        · have a := (hy.1 S X hS (by omega)).2 nsv
          have b := (hPPt.1 S X hS (by omega)).1
          omega
      · rw [if_neg e, hh_bind]
        have hO1 : hz_O n F cuts (hz_svp VM1 NM0 NM1 NM2 IM0) capi want wk most u C pi S (X + 1) (vp_updL (vp_updL R (34 * (1 + S) + 13 + X) 0) (34 * (13 + X) + 1 + S) 0) Bt := by
          refine ⟨hN, hpot, hm_close' hOrd (by omega) (by omega), fun a b ha hb => ⟨fun hf => ?_, fun hf => ?_⟩⟩
          · show ((vp_updL (vp_updL R (34 * (1 + S) + 13 + X) 0) (34 * (13 + X) + 1 + S) 0) (34 * a + b)).toInt = 0
            by_cases w1 : 34 * a + b = 34 * (13 + X) + 1 + S
            · rw [w1, hp_updL, h64_0]
            · rw [hp_updLn _ _ w1]
              by_cases w2 : 34 * a + b = 34 * (1 + S) + 13 + X
              · rw [w2, hp_updL, h64_0]
              · rw [hp_updLn _ _ w2]
                exact (hfz a b ha hb).1 (by unfold hz_fz at hf ⊢; omega)
          · show ((vp_updL (vp_updL R (34 * (1 + S) + 13 + X) 0) (34 * (13 + X) + 1 + S) 0) (34 * a + b)).toInt = _
            rw [hp_updLn _ _ (fun w => hf (by unfold hz_fz; omega)), hp_updLn _ _ (fun w => hf (by unfold hz_fz; omega))]
            exact (hfz a b ha hb).2 (fun c' => hf (by unfold hz_fz at c' ⊢; omega))
        have eb : Bt (13 + X) (1 + S) = (R (34 * (13 + X) + 1 + S)).toInt := by
          have nf : ¬ hz_fz S X (13 + X) (1 + S) := by unfold hz_fz; omega
          have k := (hfz (13 + X) (1 + S) (by omega) (by omega)).2 nf
          have k' : (R (34 * (13 + X) + (1 + S))).toInt = Bt (13 + X) (1 + S) := k
          rw [show 34 * (13 + X) + 1 + S = 34 * (13 + X) + (1 + S) by omega]
          exact k'.symm
        have hho := hO1.2.2.1.2.2.2.2.2 X (by omega)
        refine hz_99 hC hu hd hKmin hS (by omega) e (Bt0 := Bt) (fun x5 R' far' bef' Bt' t1 t2 t3 t4 => ?_) 100000000000000000000 _ _ _ _ Bt (by omega) hO1 eb (fun _ _ _ _ _ => rfl) (hm_measure hO1.2.2.1.1 hO1.2.2.1.2.1 hO1.2.2.1.pb (by omega) far bef)
        unfold f_Model_order_x99
        exact ih (X + 1) _ _ _ _ (by omega) (by omega) (nxt x5 R' Bt' t1 t2 t3 t4)
theorem hz_2 {VM4 : Nat} (hC : hl_C d C) (hnn : n = VM1 + VM4) (hu : ∀ s f, s < n → f < F → hz_svp VM1 NM0 NM1 NM2 IM0 s f → (d s f).toInt = u s f) (hd : ∀ s f, s < n → f < F → -1000000 ≤ (d s f).toInt ∧ (d s f).toInt ≤ 1000000) (hKmin : ∀ y, (∀ s f, s < n → f < F → 0 ≤ y s f ∧ (¬ hz_svp VM1 NM0 NM1 NM2 IM0 s f → y s f = 0)) → (∀ s, s < n → s < cuts → hrow y F s ≤ capi s) → (∀ f, f < F → hcol y n f = want f) → K ≤ hcost u y n F) (hF : F ≤ 8) :
    ∀ (m S : Nat) (P R far : Nat → Int64) (bef : Nat → Int32), n - S < m → S ≤ n → hz_W n F cuts (hz_svp VM1 NM0 NM1 NM2 IM0) capi want wk most u K C pi S 0 P R → ∃ R', hz_W n F cuts (hz_svp VM1 NM0 NM1 NM2 IM0) capi want wk most u K C pi n 0 (f_Model_order_h2 VM1 VM4 F NM0 NM1 NM2 IM0 C f_Model_order_x2 m S P R far bef).1 R' := by
  intro m
  induction m with
  | zero => exact fun S P R far bef h => absurd h (Nat.not_lt_zero _)
  | succ m ih =>
    intro S P R far bef hm hS hW
    rw [f_Model_order_h2]
    unfold f_Model_order_h2B
    by_cases c : VM1 + VM4 ≤ S
    · rw [if_pos c]
      have e : S = n := by omega
      subst e
      exact ⟨R, hW⟩
    · rw [if_neg c]
      refine hz_17 (Post := fun r => ∃ R', hz_W n F cuts (hz_svp VM1 NM0 NM1 NM2 IM0) capi want wk most u K C pi n 0 r.1 R') hC hu hd hKmin (by omega) (fun x P' R' far' bef' hW' => ?_) 9 0 P R far bef (by omega) (Nat.zero_le _) hW
      unfold f_Model_order_x17
      exact ih (S + 1) _ _ _ _ (by omega) (by omega) hW'
end HORDER3
