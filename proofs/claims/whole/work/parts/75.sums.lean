/-! ===== costs, in whole numbers ===== -/
theorem hw_step {f : Nat → Int} {n k : Nat} (h : ∀ i, i < n → 0 ≤ f i ∧ f i ≤ 100000000000000) (hk : k ≤ n) (hn : n ≤ 12) : 0 ≤ hs f k ∧ hs f k ≤ 1200000000000000 := by
  have a : 0 ≤ hs f k := hs_nn (fun i hi => (h i (by omega)).1)
  have b : hs f k ≤ hs (fun _ => (100000000000000 : Int)) k := hs_le (fun i hi => (h i (by omega)).2)
  rw [hs_const] at b
  exact ⟨a, by omega⟩
theorem hw_wanted4 {VM2 : Nat} {LM2 : Nat → Int64} (hF : VM2 ≤ 8) (h2 : hv_r LM2 1000000) : ∀ (m x : Nat) (acc : Int64), VM2 - x < m → x ≤ VM2 → acc.toInt = hs (hI_w LM2) x → (f_Model_wanted_h4 VM2 LM2 f_Model_wanted_x4 m acc x).toInt = hs (hI_w LM2) VM2 := by
  intro m
  induction m with
  | zero => exact fun x acc h => absurd h (Nat.not_lt_zero _)
  | succ m ih =>
    intro x acc hm hx h
    rw [f_Model_wanted_h4]
    unfold f_Model_wanted_h4B
    by_cases c : VM2 ≤ x
    · rw [if_pos c]
      have e : x = VM2 := by omega
      subst e
      exact h
    · rw [if_neg c]
      have b := h2 x
      have s := hw_step (f := hI_w LM2) (n := VM2) (k := x) (fun i _ => ⟨(h2 i).1, by have := (h2 i).2; show (LM2 i).toInt ≤ _; omega⟩) hx (by omega)
      refine ih (x + 1) _ (by omega) (by omega) ?_
      rw [h64_add (by omega) (by omega), h]
      rfl
theorem hw_wanted {VM2 : Nat} {LM2 : Nat → Int64} (hF : VM2 ≤ 8) (h2 : hv_r LM2 1000000) : (f_Model_wanted VM2 LM2).toInt = hs (hI_w LM2) VM2 := hw_wanted4 hF h2 9 0 0 (by omega) (Nat.zero_le _) h64_0
section HWTOTAL
variable {n F : Nat} {u x : Nat → Nat → Int}
theorem hw_cell (hx : ∀ s f, s < n → f < F → 0 ≤ x s f ∧ x s f ≤ 100000000) (hu : ∀ s f, s < n → f < F → (0 ≤ u s f ∧ u s f ≤ 1000000) ∨ x s f = 0) {s f : Nat} (hs1 : s < n) (hf : f < F) : 0 ≤ u s f * x s f ∧ u s f * x s f ≤ 100000000000000 := by
  have a := hx s f hs1 hf
  rcases hu s f hs1 hf with b | b
  · refine ⟨Int.mul_nonneg b.1 a.1, ?_⟩
    have : u s f * x s f ≤ 1000000 * 100000000 := Int.mul_le_mul b.2 a.2 a.1 (by omega)
    omega
  · rw [b, Int.mul_zero]
    omega
theorem hw_row (hF : F ≤ 8) (hx : ∀ s f, s < n → f < F → 0 ≤ x s f ∧ x s f ≤ 100000000) (hu : ∀ s f, s < n → f < F → (0 ≤ u s f ∧ u s f ≤ 1000000) ∨ x s f = 0) {s k : Nat} (hs1 : s < n) (hk : k ≤ F) : 0 ≤ hs (fun f => u s f * x s f) k ∧ hs (fun f => u s f * x s f) k ≤ 1200000000000000 := hw_step (n := F) (fun f hf => hw_cell hx hu hs1 hf) hk (by omega)
theorem hw_rows (hn : n ≤ 12) (hF : F ≤ 8) (hx : ∀ s f, s < n → f < F → 0 ≤ x s f ∧ x s f ≤ 100000000) (hu : ∀ s f, s < n → f < F → (0 ≤ u s f ∧ u s f ≤ 1000000) ∨ x s f = 0) {k : Nat} (hk : k ≤ n) : 0 ≤ hs (fun s => hs (fun f => u s f * x s f) F) k ∧ hs (fun s => hs (fun f => u s f * x s f) F) k ≤ 14400000000000000 := by
  have a : 0 ≤ hs (fun s => hs (fun f => u s f * x s f) F) k := hs_nn (fun i hi => (hw_row hF hx hu (by omega) (Nat.le_refl _)).1)
  have b : hs (fun s => hs (fun f => u s f * x s f) F) k ≤ hs (fun _ => (1200000000000000 : Int)) k := hs_le (fun i hi => (hw_row hF hx hu (by omega) (Nat.le_refl _)).2)
  rw [hs_const] at b
  exact ⟨a, by omega⟩
theorem hw_t20 {VM1 : Nat} {NM0 NM1 NM2 : Nat → Nat} {R C : Nat → Int64} {IM0 : Nat → Int32} {S : Nat} (hS : S < n) (hn : n ≤ 12) (hF : F ≤ 8) (hx : ∀ s f, s < n → f < F → 0 ≤ x s f ∧ x s f ≤ 100000000) (hu : ∀ s f, s < n → f < F → (0 ≤ u s f ∧ u s f ≤ 1000000) ∨ x s f = 0) (hR : ∀ f, f < F → (f_Model_serves VM1 NM0 NM1 NM2 IM0 S f = 0 → x S f = 0) ∧ (¬ f_Model_serves VM1 NM0 NM1 NM2 IM0 S f = 0 → (R (34 * (13 + f) + 1 + S)).toInt = x S f ∧ (C (34 * (1 + S) + 13 + f)).toInt = u S f)) {A : Int} (hA : 0 ≤ A ∧ A ≤ 14400000000000000) {Post : Int64 → Prop} {k : Int64 → Nat → Int64} (hk : ∀ acc f, acc.toInt = A + hs (fun f => u S f * x S f) F → Post (k acc f)) :
    ∀ (m f : Nat) (acc : Int64), F - f < m → f ≤ F → acc.toInt = A + hs (fun f => u S f * x S f) f → Post (f_Model_total_h20 F VM1 NM0 NM1 NM2 R IM0 S C k m acc f) := by
  intro m
  induction m with
  | zero => exact fun f acc h => absurd h (Nat.not_lt_zero _)
  | succ m ih =>
    intro f acc hm hf h
    rw [f_Model_total_h20]
    unfold f_Model_total_h20B
    by_cases c : F ≤ f
    · rw [if_pos c]
      have e : f = F := by omega
      subst e
      exact hk _ _ h
    · rw [if_neg c, hh_bind]
      have rb := hw_row hF hx hu hS (show f ≤ F from hf)
      have cb := hw_cell hx hu hS (show f < F by omega)
      have xb := hx S f hS (by omega)
      have key : (f_Model_goes VM1 NM0 NM1 NM2 R IM0 S f * C (34 * (1 + S) + 13 + f)).toInt = u S f * x S f := by
        unfold f_Model_goes
        rw [hh_bind]
        by_cases e : f_Model_serves VM1 NM0 NM1 NM2 IM0 S f = 0
        · rw [if_pos e, (hR f (by omega)).1 e, Int.mul_zero, h64_mul (by rw [h64_0, Int.zero_mul]; omega) (by rw [h64_0, Int.zero_mul]; omega), h64_0, Int.zero_mul]
        · rw [if_neg e]
          have q := (hR f (by omega)).2 e
          rw [h64_mul (by rw [q.1, q.2, Int.mul_comm]; omega) (by rw [q.1, q.2, Int.mul_comm]; omega), q.1, q.2, Int.mul_comm]
      refine ih (f + 1) _ (by omega) (by omega) ?_
      rw [h64_add (by omega) (by omega), key, h]
      show A + hs (fun f => u S f * x S f) f + u S f * x S f = A + (hs (fun f => u S f * x S f) f + u S f * x S f)
      omega
theorem hw_total {VM1 VM4 : Nat} {NM0 NM1 NM2 : Nat → Nat} {R C : Nat → Int64} {IM0 : Nat → Int32} (hnn : n = VM1 + VM4) (hn : n ≤ 12) (hF : F ≤ 8) (hx : ∀ s f, s < n → f < F → 0 ≤ x s f ∧ x s f ≤ 100000000) (hu : ∀ s f, s < n → f < F → (0 ≤ u s f ∧ u s f ≤ 1000000) ∨ x s f = 0) (hR : ∀ s f, s < n → f < F → (f_Model_serves VM1 NM0 NM1 NM2 IM0 s f = 0 → x s f = 0) ∧ (¬ f_Model_serves VM1 NM0 NM1 NM2 IM0 s f = 0 → (R (34 * (13 + f) + 1 + s)).toInt = x s f ∧ (C (34 * (1 + s) + 13 + f)).toInt = u s f)) :
    (f_Model_total VM1 F VM4 NM0 NM1 NM2 R C IM0).toInt = hcost u x n F := by
  have gen : ∀ (m S : Nat) (acc : Int64), n - S < m → S ≤ n → acc.toInt = hs (fun s => hs (fun f => u s f * x s f) F) S → (f_Model_total_h4 VM1 VM4 F NM0 NM1 NM2 R IM0 C f_Model_total_x4 m acc S).toInt = hcost u x n F := by
    intro m
    induction m with
    | zero => exact fun S acc h => absurd h (Nat.not_lt_zero _)
    | succ m ih =>
      intro S acc hm hS h
      rw [f_Model_total_h4]
      unfold f_Model_total_h4B
      by_cases c : VM1 + VM4 ≤ S
      · rw [if_pos c]
        have e : S = n := by omega
        subst e
        exact h
      · rw [if_neg c]
        have ab := hw_rows hn hF hx hu hS
        refine hw_t20 (Post := fun r => r.toInt = hcost u x n F) (show S < n by omega) hn hF hx hu (fun f hf => hR S f (by omega) hf) ab (fun acc' f' h' => ?_) 9 0 acc (by omega) (Nat.zero_le _) (by rw [h]; exact (Int.add_zero _).symm)
        unfold f_Model_total_x20
        exact ih (S + 1) _ (by omega) (by omega) h'
  exact gen 13 0 0 (by omega) (Nat.zero_le _) h64_0
theorem hw_p15 {LP0 LP1 : Nat → Int64} {S : Nat} (hS : S < n) (hF : F ≤ 8) (hx : ∀ s f, s < n → f < F → 0 ≤ x s f ∧ x s f ≤ 100000000) (hu : ∀ s f, s < n → f < F → (0 ≤ u s f ∧ u s f ≤ 1000000) ∨ x s f = 0) (hR : ∀ f, f < F → (LP1 (S * 9 + f)).toInt = x S f ∧ ((LP0 (S * 9 + f)).toInt = u S f ∨ x S f = 0)) {A : Int} (hA : 0 ≤ A ∧ A ≤ 14400000000000000) {Post : Int64 → Prop} {k : Int64 → Nat → Int64} (hk : ∀ acc f, acc.toInt = A + hs (fun f => u S f * x S f) F → Post (k acc f)) :
    ∀ (m f : Nat) (acc : Int64), F - f < m → f ≤ F → acc.toInt = A + hs (fun f => u S f * x S f) f → Post (f_Plan_totalPrice_h15 F LP0 LP1 S k m acc f) := by
  intro m
  induction m with
  | zero => exact fun f acc h => absurd h (Nat.not_lt_zero _)
  | succ m ih =>
    intro f acc hm hf h
    rw [f_Plan_totalPrice_h15]
    unfold f_Plan_totalPrice_h15B
    by_cases c : F ≤ f
    · rw [if_pos c]
      have e : f = F := by omega
      subst e
      exact hk _ _ h
    · rw [if_neg c, hh_bind]
      have rb := hw_row hF hx hu hS (show f ≤ F from hf)
      have cb := hw_cell hx hu hS (show f < F by omega)
      have q := hR f (by omega)
      have key : (f_Plan_price LP0 LP1 S f).toInt = u S f * x S f := by
        unfold f_Plan_price
        rcases q.2 with e | e
        · rw [h64_mul (by rw [q.1, e, Int.mul_comm]; omega) (by rw [q.1, e, Int.mul_comm]; omega), q.1, e, Int.mul_comm]
        · rw [e, Int.mul_zero, h64_mul (by rw [q.1, e, Int.zero_mul]; omega) (by rw [q.1, e, Int.zero_mul]; omega), q.1, e, Int.zero_mul]
      refine ih (f + 1) _ (by omega) (by omega) ?_
      rw [h64_add (by omega) (by omega), key, h]
      show A + hs (fun f => u S f * x S f) f + u S f * x S f = A + (hs (fun f => u S f * x S f) f + u S f * x S f)
      omega
theorem hw_price {LP0 LP1 : Nat → Int64} (hn : n ≤ 12) (hF : F ≤ 8) (hx : ∀ s f, s < n → f < F → 0 ≤ x s f ∧ x s f ≤ 100000000) (hu : ∀ s f, s < n → f < F → (0 ≤ u s f ∧ u s f ≤ 1000000) ∨ x s f = 0) (hR : ∀ s f, s < n → f < F → (LP1 (s * 9 + f)).toInt = x s f ∧ ((LP0 (s * 9 + f)).toInt = u s f ∨ x s f = 0)) :
    (f_Plan_totalPrice n F LP0 LP1).toInt = hcost u x n F := by
  have gen : ∀ (m S : Nat) (acc : Int64), n - S < m → S ≤ n → acc.toInt = hs (fun s => hs (fun f => u s f * x s f) F) S → (f_Plan_totalPrice_h4 n F LP0 LP1 f_Plan_totalPrice_x4 m acc S).toInt = hcost u x n F := by
    intro m
    induction m with
    | zero => exact fun S acc h => absurd h (Nat.not_lt_zero _)
    | succ m ih =>
      intro S acc hm hS h
      rw [f_Plan_totalPrice_h4]
      unfold f_Plan_totalPrice_h4B
      by_cases c : n ≤ S
      · rw [if_pos c]
        have e : S = n := by omega
        subst e
        exact h
      · rw [if_neg c]
        have ab := hw_rows hn hF hx hu hS
        refine hw_p15 (Post := fun r => r.toInt = hcost u x n F) (show S < n by omega) hF hx hu (fun f hf => hR S f (by omega) hf) ab (fun acc' f' h' => ?_) 9 0 acc (by omega) (Nat.zero_le _) (by rw [h]; exact (Int.add_zero _).symm)
        unfold f_Plan_totalPrice_x15
        exact ih (S + 1) _ (by omega) (by omega) h'
  exact gen 13 0 0 (by omega) (Nat.zero_le _) h64_0
end HWTOTAL
