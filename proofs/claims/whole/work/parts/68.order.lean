/-! ===== order(): the reference's first plan ===== -/
def hz_fz (S X a b : Nat) : Prop := ((1 ≤ a ∧ a ≤ 12) ∧ (13 ≤ b ∧ b ≤ 20) ∧ (a - 1 < S ∨ (a - 1 = S ∧ b - 13 < X))) ∨ ((1 ≤ b ∧ b ≤ 12) ∧ (13 ≤ a ∧ a ≤ 20) ∧ (b - 1 < S ∨ (b - 1 = S ∧ a - 13 < X)))
theorem hz_fz_symm {S X a b : Nat} (h : hz_fz S X a b) : hz_fz S X b a := Or.symm h
theorem ho5_add (M N : Nat → Nat → Int) (a : Nat) : ho5 (fun a b => M a b + N a b) a = ho5 M a + ho5 N a := by
  show M a 0 + N a 0 + hs (fun s => M a (1 + s) + N a (1 + s)) 12 + hs (fun s => M a (13 + s) + N a (13 + s)) 8 + hs (fun s => M a (21 + s) + N a (21 + s)) 12 + (M a 33 + N a 33) = M a 0 + hs (fun s => M a (1 + s)) 12 + hs (fun s => M a (13 + s)) 8 + hs (fun s => M a (21 + s)) 12 + M a 33 + (N a 0 + hs (fun s => N a (1 + s)) 12 + hs (fun s => N a (13 + s)) 8 + hs (fun s => N a (21 + s)) 12 + N a 33)
  rw [hs_add (fun s => M a (1 + s)) (fun s => N a (1 + s)), hs_add (fun s => M a (13 + s)) (fun s => N a (13 + s)), hs_add (fun s => M a (21 + s)) (fun s => N a (21 + s))]
  omega
theorem ho5_sub (M N : Nat → Nat → Int) (a : Nat) : ho5 (fun a b => M a b - N a b) a = ho5 M a - ho5 N a := by
  show M a 0 - N a 0 + hs (fun s => M a (1 + s) - N a (1 + s)) 12 + hs (fun s => M a (13 + s) - N a (13 + s)) 8 + hs (fun s => M a (21 + s) - N a (21 + s)) 12 + (M a 33 - N a 33) = M a 0 + hs (fun s => M a (1 + s)) 12 + hs (fun s => M a (13 + s)) 8 + hs (fun s => M a (21 + s)) 12 + M a 33 - (N a 0 + hs (fun s => N a (1 + s)) 12 + hs (fun s => N a (13 + s)) 8 + hs (fun s => N a (21 + s)) 12 + N a 33)
  rw [hs_sub (fun s => M a (1 + s)) (fun s => N a (1 + s)), hs_sub (fun s => M a (13 + s)) (fun s => N a (13 + s)), hs_sub (fun s => M a (21 + s)) (fun s => N a (21 + s))]
  omega
theorem ho5_s {S : Nat} (hS : S < 12) (a0 : Nat) (m : Int) (a : Nat) : ho5 (fun a b => if a = a0 ∧ b = 1 + S then m else 0) a = if a = a0 then m else 0 := by
  unfold ho5
  have e1 : hs (fun s => if a = a0 ∧ 1 + s = 1 + S then m else 0) 12 = if a = a0 then m else 0 := by
    by_cases c : a = a0
    · rw [if_pos c]
      refine (hs_congr (fun i _ => ?_)).trans (hs_one (n := 12) m hS)
      by_cases e : i = S
      · rw [if_pos ⟨c, by omega⟩, if_pos e]
      · rw [if_neg (fun q => e (by omega)), if_neg e]
    · rw [if_neg c]
      exact hs_zero (fun i _ => if_neg (fun q => c q.1))
  have e2 : hs (fun f => if a = a0 ∧ 13 + f = 1 + S then m else 0) 8 = 0 := hs_zero (fun i _ => if_neg (fun q => by omega))
  have e3 : hs (fun f => if a = a0 ∧ 21 + f = 1 + S then m else 0) 12 = 0 := hs_zero (fun i _ => if_neg (fun q => by omega))
  show (if a = a0 ∧ 0 = 1 + S then m else 0) + hs (fun s => if a = a0 ∧ 1 + s = 1 + S then m else 0) 12 + hs (fun f => if a = a0 ∧ 13 + f = 1 + S then m else 0) 8 + hs (fun f => if a = a0 ∧ 21 + f = 1 + S then m else 0) 12 + (if a = a0 ∧ 33 = 1 + S then m else 0) = _
  rw [e1, e2, e3, if_neg (show ¬ (a = a0 ∧ 0 = 1 + S) from fun q => by omega), if_neg (show ¬ (a = a0 ∧ 33 = 1 + S) from fun q => by omega)]
  omega
theorem ho5_f {S : Nat} (hS : S < 8) (a0 : Nat) (m : Int) (a : Nat) : ho5 (fun a b => if a = a0 ∧ b = 13 + S then m else 0) a = if a = a0 then m else 0 := by
  unfold ho5
  have e1 : hs (fun s => if a = a0 ∧ 13 + s = 13 + S then m else 0) 8 = if a = a0 then m else 0 := by
    by_cases c : a = a0
    · rw [if_pos c]
      refine (hs_congr (fun i _ => ?_)).trans (hs_one (n := 8) m hS)
      by_cases e : i = S
      · rw [if_pos ⟨c, by omega⟩, if_pos e]
      · rw [if_neg (fun q => e (by omega)), if_neg e]
    · rw [if_neg c]
      exact hs_zero (fun i _ => if_neg (fun q => c q.1))
  have e2 : hs (fun f => if a = a0 ∧ 1 + f = 13 + S then m else 0) 12 = 0 := hs_zero (fun i _ => if_neg (fun q => by omega))
  have e3 : hs (fun f => if a = a0 ∧ 21 + f = 13 + S then m else 0) 12 = 0 := hs_zero (fun i _ => if_neg (fun q => by omega))
  show (if a = a0 ∧ 0 = 13 + S then m else 0) + hs (fun s => if a = a0 ∧ 1 + s = 13 + S then m else 0) 12 + hs (fun f => if a = a0 ∧ 13 + f = 13 + S then m else 0) 8 + hs (fun f => if a = a0 ∧ 21 + f = 13 + S then m else 0) 12 + (if a = a0 ∧ 33 = 13 + S then m else 0) = _
  rw [e1, e2, e3, if_neg (show ¬ (a = a0 ∧ 0 = 13 + S) from fun q => by omega), if_neg (show ¬ (a = a0 ∧ 33 = 13 + S) from fun q => by omega)]
  omega
theorem hcost_sub (u x y : Nat → Nat → Int) (n F : Nat) : hcost u (fun s f => y s f - x s f) n F = hcost u y n F - hcost u x n F := by
  unfold hcost
  rw [← h2_sub]
  exact h2_congr (fun s f _ _ => Int.mul_sub _ _ _)
section HORDER
variable {n F cuts : Nat} {sv : Nat → Nat → Prop} {capi want : Nat → Int} {wk : Nat → Nat} {most : Nat → Int} {u : Nat → Nat → Int} {K : Int} {C : Nat → Int64} {d : Nat → Nat → Int64} {pi : Nat → Int}
theorem hn_is_new {B B' : Nat → Nat → Int} {v : Int} (h : hn_is n F cuts sv capi want wk most B v) (h1 : ∀ a b, a < 34 → b < 34 → 0 ≤ B' a b) (h2 : ∀ a b, a < 34 → b < 34 → B' a b + B' b a = B a b + B b a) (h3 : ∀ a, a < 34 → ho5 B' a = ho5 B a) : hn_is n F cuts sv capi want wk most B' v := by
  obtain ⟨c0, c1, c3, A, a1, a2, a3, a4, a5, a6, a7, a8, a9, a10⟩ := h
  exact ⟨c0, c1, c3, A, a1, a2, a3, a4, a5, a6, h1, fun a b ha hb => (h2 a b ha hb).trans (a8 a b ha hb), fun a ha => (h3 a ha).trans (a9 a ha), a10⟩
theorem hn_big {B : Nat → Nat → Int} {v : Int} (h : hn_is n F cuts sv capi want wk most B v) {s f : Nat} (hs1 : s < n) (hf : f < F) (hsv : sv s f) : 1000000000000 ≤ B (1 + s) (13 + f) + B (13 + f) (1 + s) := by
  obtain ⟨c0, c1, c3, A, a1, a2, a3, a4, a5, a6, a7, a8, a9, a10, a11, -⟩ := h
  rw [a8 _ _ (by omega) (by omega), a1 _ _ (by omega) (by omega), a1 _ _ (by omega) (by omega)]
  unfold hnA
  rw [if_neg (by omega), if_pos (by omega), if_pos (by omega), show 1 + s - 1 = s by omega, show 13 + f - 13 = f by omega, if_neg (by omega), if_neg (by omega), if_pos (by omega), if_neg (by omega)]
  have := (a11 s f hs1 hf).1 hsv
  omega
/-- the best plans -/
def hz_Opt (n F cuts : Nat) (sv : Nat → Nat → Prop) (capi want : Nat → Int) (u : Nat → Nat → Int) (K : Int) (y : Nat → Nat → Int) : Prop := (∀ s f, s < n → f < F → 0 ≤ y s f ∧ (¬ sv s f → y s f = 0)) ∧ (∀ s, s < n → s < cuts → hrow y F s ≤ capi s) ∧ (∀ f, f < F → hcol y n f = want f) ∧ hcost u y n F ≤ K
def hz_lx (n F cuts : Nat) (sv : Nat → Nat → Prop) (capi want : Nat → Int) (u : Nat → Nat → Int) (K : Int) (z : Nat → Nat → Int) (s f : Nat) : Prop := ∀ y, hz_Opt n F cuts sv capi want u K y → (∀ s' f', s' < n → f' < F → (s' < s ∨ (s' = s ∧ f' < f)) → y s' f' = z s' f') → y s f ≤ z s f
/-- in order(), cells before (S, X) are closed -/
def hz_O (n F cuts : Nat) (sv : Nat → Nat → Prop) (capi want : Nat → Int) (wk : Nat → Nat) (most : Nat → Int) (u : Nat → Nat → Int) (C : Nat → Int64) (pi : Nat → Int) (S X : Nat) (R : Nat → Int64) (Bt : Nat → Nat → Int) : Prop :=
  hn_is n F cuts sv capi want wk most Bt (hs want F) ∧ hz_pot n F sv u Bt pi ∧ hm_Ord R C pi ∧ ∀ a b, a < 34 → b < 34 → (hz_fz S X a b → hz_B R a b = 0) ∧ (¬ hz_fz S X a b → hz_B R a b = Bt a b)
theorem hz_O.n12 {S X : Nat} {R : Nat → Int64} {Bt : Nat → Nat → Int} (h : hz_O n F cuts sv capi want wk most u C pi S X R Bt) : n ≤ 12 ∧ F ≤ 8 ∧ hs want F ≤ 100000000 := by
  obtain ⟨⟨c0, c1, c3, A, a1, a2, a3, a4, a5, a6, a7, a8, a9, a10, a11, a12, a13, a14⟩, -⟩ := h
  exact ⟨a2, a3, a14⟩
theorem hz_O.full {S X : Nat} {R : Nat → Int64} {Bt : Nat → Nat → Int} (h : hz_O n F cuts sv capi want wk most u C pi S X R Bt) : ∀ f, f < F → hcol (hn_x Bt) n f = want f := by
  obtain ⟨hP, q0, -⟩ := hn_all h.1
  intro f hf
  have e1 : hs (fun f => want f - hcol (hn_x Bt) n f) F = 0 := by
    rw [hs_sub, ← h2_cols, ← q0, Int.sub_self]
  have k := hs_each (f := fun f => want f - hcol (hn_x Bt) n f) (fun f hf => by have := hP.2.2.1 f hf; show 0 ≤ want f - hcol (hn_x Bt) n f; omega) hf (by omega)
  have k' : want f - hcol (hn_x Bt) n f = 0 := k
  omega
/-- one send: a ring that costs nothing -/
theorem hz_step (hC : hl_C d C) (hu : ∀ s f, s < n → f < F → sv s f → (d s f).toInt = u s f) (hd : ∀ s f, s < n → f < F → -1000000 ≤ (d s f).toInt ∧ (d s f).toInt ≤ 1000000) {S X : Nat} {R : Nat → Int64} {Bt : Nat → Nat → Int} (hO : hz_O n F cuts sv capi want wk most u C pi S (X + 1) R Bt) (hS : S < n) (hX : X < F) (hsv : sv S X) {far : Nat → Int64} {bef : Nat → Int32} (hG : hm_Good R C pi (13 + X) (far, bef)) (hfar : far (1 + S) = -(C (34 * (1 + S) + 13 + X))) :
    0 < (f_Model_send R bef (13 + X) (1 + S)).1.toInt ∧ (f_Model_send R bef (13 + X) (1 + S)).1.toInt ≤ 1000000000000 ∧ ho (f_Model_send R bef (13 + X) (1 + S)).2 (13 + X) = ho R (13 + X) - (f_Model_send R bef (13 + X) (1 + S)).1.toInt ∧
    ∃ Bt', hz_O n F cuts sv capi want wk most u C pi S (X + 1) (f_Model_send R bef (13 + X) (1 + S)).2 Bt' ∧ Bt' (13 + X) (1 + S) = Bt (13 + X) (1 + S) + (f_Model_send R bef (13 + X) (1 + S)).1.toInt ∧ ∀ a b, a < 34 → b < 34 → hz_fz S X a b → Bt' a b = Bt a b := by
  obtain ⟨hn12, hF, hwt⟩ := hO.n12
  obtain ⟨hN, hP, hOrd, hfz⟩ := id hO
  obtain ⟨hPPt, q0, q1, q2, q3, q4, q5⟩ := hn_all hN
  have eC : (C (34 * (1 + S) + 13 + X)).toInt = u S X := by
    have k := hC (1 + S) (13 + X) (by omega) (by omega)
    rw [show 34 * (1 + S) + (13 + X) = 34 * (1 + S) + 13 + X by omega] at k
    rw [k]
    unfold hl_w
    rw [if_pos (by omega), show 1 + S - 1 = S by omega, show 13 + X - 13 = X by omega, hu S X hS hX hsv]
  have dSX := hd S X hS hX
  rw [hu S X hS hX hsv] at dSX
  have fwd := hP.1 S X hS hX hsv
  have br := hm_back_road hOrd (s := S) (f := X) (by omega) (by omega) (by rw [eC]; exact fwd) hfar
  obtain ⟨s1, s2, s3, dep, L, hJ, hpL⟩ := hm_swap hOrd (src := 13 + X) (to := 1 + S) (by omega) (by omega) hG br.1 br.2 (by omega) (fun f hf => by omega)
  have efar : (far (1 + S)).toInt = - u S X := by rw [hfar, h64_neg (by omega), eC]
  have pil : pi (1 + S) - pi (13 + X) ≤ (far (1 + S)).toInt := by
    have k := hG.1.2.1 (1 + S) (by omega)
    rcases k with k | k
    · have k' : (far (1 + S)).toInt = 4000000000000000 := k
      omega
    · exact k.2
  generalize hm : (f_Model_send R bef (13 + X) (1 + S)).1.toInt = m at *
  generalize hR' : (f_Model_send R bef (13 + X) (1 + S)).2 = R' at *
  have hrb' := s1.2.2.1
  have hoR : ∀ w, w < 34 → ho R' w = ho R w + (if w = 1 + S then m else 0) - (if w = 13 + X then m else 0) := by
    intro w hw
    have k := hJ.1 w hw
    rw [hpL] at k
    exact k
  have hoX := hoR (13 + X) (by omega)
  rw [if_neg (by omega), if_pos rfl] at hoX
  have hm11 : m ≤ 100000000000 := by
    have a := hOrd.2.2.2.2.2 X (by omega)
    have b := (hm_ho hrb' (show 13 + X < 34 by omega)).1
    omega
  have zero' : ∀ a b, a < 34 → b < 34 → hz_fz S (X + 1) a b → hz_B R' a b = 0 := by
    intro a b ha hb hf
    have k1 := (hfz a b ha hb).1 hf
    have k2 := (hfz b a hb ha).1 (hz_fz_symm hf)
    have k3 := hJ.2.1 a b ha hb
    have k4 := (hrb' a b ha hb).1
    have k5 := (hrb' b a hb ha).1
    show (R' (34 * a + b)).toInt = 0
    have k1' : (R (34 * a + b)).toInt = 0 := k1
    have k2' : (R (34 * b + a)).toInt = 0 := k2
    omega
  have fcur : hz_fz S (X + 1) (13 + X) (1 + S) := Or.inr ⟨by omega, by omega, by omega⟩
  have fcur2 : hz_fz S (X + 1) (1 + S) (13 + X) := Or.inl ⟨by omega, by omega, by omega⟩
  have cellv : ∀ a b, a < 34 → b < 34 → (hz_fz S (X + 1) a b → Bt a b + (hz_B R' a b - hz_B R a b) + (if a = 13 + X ∧ b = 1 + S then m else 0) - (if a = 1 + S ∧ b = 13 + X then m else 0) = Bt a b + (if a = 13 + X ∧ b = 1 + S then m else 0) - (if a = 1 + S ∧ b = 13 + X then m else 0)) ∧ (¬ hz_fz S (X + 1) a b → Bt a b + (hz_B R' a b - hz_B R a b) + (if a = 13 + X ∧ b = 1 + S then m else 0) - (if a = 1 + S ∧ b = 13 + X then m else 0) = hz_B R' a b) := by
    intro a b ha hb
    refine ⟨fun hf => ?_, fun hf => ?_⟩
    · rw [zero' a b ha hb hf, (hfz a b ha hb).1 hf]
      omega
    · rw [(hfz a b ha hb).2 hf, if_neg (fun q => hf (by rw [q.1, q.2]; exact fcur)), if_neg (fun q => hf (by rw [q.1, q.2]; exact fcur2))]
      omega
  have xb : Bt (13 + X) (1 + S) ≤ hs want F := (hn_small (x := hn_x Bt) (s := S) (f := X) (fun s f h1 h2 => (hPPt.1 s f h1 h2).1) hPPt.2.2.1 hS).2 hX
  have big := hn_big hN hS hX hsv
  have Bnn : ∀ a b, a < 34 → b < 34 → 0 ≤ Bt a b := by
    obtain ⟨c0, c1, c3, A, a1, a2, a3, a4, a5, a6, a7, -⟩ := hN
    exact a7
  refine ⟨s2, s3, by omega, fun a b => Bt a b + (hz_B R' a b - hz_B R a b) + (if a = 13 + X ∧ b = 1 + S then m else 0) - (if a = 1 + S ∧ b = 13 + X then m else 0), ⟨hn_is_new hN (fun a b ha hb => ?_) (fun a b ha hb => ?_) (fun a ha => ?_), ⟨hP.1, fun s f h1 h2 hp => ?_, fun s h1 hp => ?_, fun s h1 hp => ?_⟩, s1, fun a b ha hb => ⟨zero' a b ha hb, fun hf => ((cellv a b ha hb).2 hf).symm⟩⟩, ?_, fun a b ha hb hf => ?_⟩
  · show 0 ≤ Bt a b + (hz_B R' a b - hz_B R a b) + (if a = 13 + X ∧ b = 1 + S then m else 0) - (if a = 1 + S ∧ b = 13 + X then m else 0)
    have nn := Bnn a b ha hb
    by_cases hf : hz_fz S (X + 1) a b
    · rw [(cellv a b ha hb).1 hf]
      by_cases c1 : a = 1 + S ∧ b = 13 + X
      · rw [if_neg (by omega), if_pos c1, c1.1, c1.2]
        omega
      · rw [if_neg c1]
        by_cases c2 : a = 13 + X ∧ b = 1 + S
        · rw [if_pos c2]; omega
        · rw [if_neg c2]; omega
    · rw [(cellv a b ha hb).2 hf]
      exact (hrb' a b ha hb).1
  · show Bt a b + (hz_B R' a b - hz_B R a b) + (if a = 13 + X ∧ b = 1 + S then m else 0) - (if a = 1 + S ∧ b = 13 + X then m else 0) + (Bt b a + (hz_B R' b a - hz_B R b a) + (if b = 13 + X ∧ a = 1 + S then m else 0) - (if b = 1 + S ∧ a = 13 + X then m else 0)) = _
    have k3 : hz_B R' a b + hz_B R' b a = hz_B R a b + hz_B R b a := hJ.2.1 a b ha hb
    have e1 : (if b = 13 + X ∧ a = 1 + S then m else 0) = (if a = 1 + S ∧ b = 13 + X then m else 0) := by
      by_cases c : a = 1 + S ∧ b = 13 + X
      · rw [if_pos c, if_pos ⟨c.2, c.1⟩]
      · rw [if_neg c, if_neg (fun q => c ⟨q.2, q.1⟩)]
    have e2 : (if b = 1 + S ∧ a = 13 + X then m else 0) = (if a = 13 + X ∧ b = 1 + S then m else 0) := by
      by_cases c : a = 13 + X ∧ b = 1 + S
      · rw [if_pos c, if_pos ⟨c.2, c.1⟩]
      · rw [if_neg c, if_neg (fun q => c ⟨q.2, q.1⟩)]
    rw [e1, e2]
    omega
  · have k := hoR a ha
    rw [ho_5, ho_5] at k
    rw [ho5_sub (fun a b => Bt a b + (hz_B R' a b - hz_B R a b) + (if a = 13 + X ∧ b = 1 + S then m else 0)) (fun a b => if a = 1 + S ∧ b = 13 + X then m else 0), ho5_add (fun a b => Bt a b + (hz_B R' a b - hz_B R a b)) (fun a b => if a = 13 + X ∧ b = 1 + S then m else 0), ho5_add Bt (fun a b => hz_B R' a b - hz_B R a b), ho5_sub (hz_B R') (hz_B R), ho5_s (by omega), ho5_f (by omega)]
    have k' : ho5 (hz_B R') a = ho5 (hz_B R) a + (if a = 1 + S then m else 0) - (if a = 13 + X then m else 0) := k
    omega
  · have hp' : 0 < Bt (13 + f) (1 + s) + (hz_B R' (13 + f) (1 + s) - hz_B R (13 + f) (1 + s)) + (if 13 + f = 13 + X ∧ 1 + s = 1 + S then m else 0) - (if 13 + f = 1 + S ∧ 1 + s = 13 + X then m else 0) := hp
    by_cases hf : hz_fz S (X + 1) (13 + f) (1 + s)
    · rw [(cellv _ _ (by omega) (by omega)).1 hf] at hp'
      by_cases c2 : 13 + f = 13 + X ∧ 1 + s = 1 + S
      · have e1 : f = X := by omega
        have e2 : s = S := by omega
        rw [e1, e2]
        omega
      · rw [if_neg c2, if_neg (by omega)] at hp'
        exact hP.2.1 s f h1 h2 (by omega)
    · rw [(cellv _ _ (by omega) (by omega)).2 hf] at hp'
      have kk := s1.1 (13 + f) (1 + s) (by omega) (by omega) hp'
      have hsv' : sv s f := by
        refine Classical.byContradiction (fun q => ?_)
        have z1 := (hPPt.1 s f h1 h2).2 q
        have z2 := (q2 s f h1 h2).2 q
        have z3 := (hfz (13 + f) (1 + s) (by omega) (by omega)).2 hf
        have z4 := (hfz (1 + s) (13 + f) (by omega) (by omega)).2 (fun z => hf (hz_fz_symm z))
        have z5 := hJ.2.1 (13 + f) (1 + s) (by omega) (by omega)
        have z6 := (hrb' (1 + s) (13 + f) (by omega) (by omega)).1
        have z1' : Bt (13 + f) (1 + s) = 0 := z1
        have z3' : (R (34 * (13 + f) + (1 + s))).toInt = Bt (13 + f) (1 + s) := z3
        have z4' : (R (34 * (1 + s) + (13 + f))).toInt = Bt (1 + s) (13 + f) := z4
        have hp2 : 0 < (R' (34 * (13 + f) + (1 + s))).toInt := hp'
        omega
      rw [hC _ _ (by omega) (by omega)] at kk
      unfold hl_w at kk
      have b := hd s f h1 h2
      rw [if_neg (by omega), if_pos (by omega), show 1 + s - 1 = s by omega, show 13 + f - 13 = f by omega, h64_neg (by omega), hu s f h1 h2 hsv'] at kk
      omega
  · have hf : ¬ hz_fz S (X + 1) 0 (1 + s) := by unfold hz_fz; omega
    have hp' : 0 < Bt 0 (1 + s) + (hz_B R' 0 (1 + s) - hz_B R 0 (1 + s)) + (if 0 = 13 + X ∧ 1 + s = 1 + S then m else 0) - (if 0 = 1 + S ∧ 1 + s = 13 + X then m else 0) := hp
    rw [(cellv _ _ (by omega) (by omega)).2 hf] at hp'
    have kk := s1.1 0 (1 + s) (by omega) (by omega) hp'
    rw [hC _ _ (by omega) (by omega)] at kk
    unfold hl_w at kk
    rw [if_neg (by omega), if_neg (by omega), h64_0] at kk
    omega
  · have hf : ¬ hz_fz S (X + 1) (1 + s) 0 := by unfold hz_fz; omega
    have hp' : 0 < Bt (1 + s) 0 + (hz_B R' (1 + s) 0 - hz_B R (1 + s) 0) + (if 1 + s = 13 + X ∧ 0 = 1 + S then m else 0) - (if 1 + s = 1 + S ∧ 0 = 13 + X then m else 0) := hp
    rw [(cellv _ _ (by omega) (by omega)).2 hf] at hp'
    have kk := s1.1 (1 + s) 0 (by omega) (by omega) hp'
    rw [hC _ _ (by omega) (by omega)] at kk
    unfold hl_w at kk
    rw [if_neg (by omega), if_neg (by omega), h64_0] at kk
    omega
  · show Bt (13 + X) (1 + S) + (hz_B R' (13 + X) (1 + S) - hz_B R (13 + X) (1 + S)) + (if 13 + X = 13 + X ∧ 1 + S = 1 + S then m else 0) - (if 13 + X = 1 + S ∧ 1 + S = 13 + X then m else 0) = _
    rw [(cellv _ _ (by omega) (by omega)).1 fcur, if_pos ⟨rfl, rfl⟩, if_neg (by omega)]
    omega
  · show Bt a b + (hz_B R' a b - hz_B R a b) + (if a = 13 + X ∧ b = 1 + S then m else 0) - (if a = 1 + S ∧ b = 13 + X then m else 0) = _
    have hf' : hz_fz S (X + 1) a b := by unfold hz_fz at hf ⊢; omega
    rw [(cellv a b ha hb).1 hf', if_neg (fun q => by unfold hz_fz at hf; omega), if_neg (fun q => by unfold hz_fz at hf; omega)]
    omega
end HORDER
