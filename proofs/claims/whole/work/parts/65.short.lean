/-! ===== the class's network: clear(), and what find() finds ===== -/
def hd_v (c0 : Nat → Int64) (c1 c2 : Nat → Nat → Int64) (c3 : Nat → Int64) (a b : Nat) : Int64 :=
  if a < 12 then (if 12 ≤ b ∧ b < 20 then c1 a (b - 12) else 0) else if a < 20 then (if 20 ≤ b ∧ b < 32 then c2 (a - 12) (b - 20) else 0) else if a < 32 then (if b = 33 then c3 (a - 20) else 0) else if a = 32 then (if b < 12 then c0 b else 0) else 0
def hd_R (c0 : Nat → Int64) (c1 c2 : Nat → Nat → Int64) (c3 : Nat → Int64) (R : Nat → Int64) : Prop := ∀ a b, a < 34 → b < 34 → R (34 * a + b) = hd_v c0 c1 c2 c3 a b
section HDLAY
variable {c0 c3 : Nat → Int64} {c1 c2 : Nat → Nat → Int64} {R : Nat → Int64}
theorem hd_u0 (h : hd_R c0 c1 c2 c3 R) {s : Nat} (hs : s < 12) (v : Int64) : hd_R (va_up c0 s v) c1 c2 c3 (vp_updL R (1088 + s) v) := by
  intro a b ha hb
  by_cases e : a = 32 ∧ b = s
  · obtain ⟨rfl, rfl⟩ := e
    unfold hd_v
    rw [if_neg (by omega), if_neg (by omega), if_neg (by omega), if_pos rfl, if_pos hs, va_up_self, show 34 * 32 + b = 1088 + b by omega, hp_updL]
  · rw [hp_updLn _ _ (by omega), h a b ha hb]
    by_cases c : a = 32
    · subst c
      have e32 : ∀ c0' : Nat → Int64, hd_v c0' c1 c2 c3 32 b = if b < 12 then c0' b else 0 := fun _ => rfl
      rw [e32, e32]
      by_cases k : b < 12
      · rw [if_pos k, if_pos k, va_up_ne _ _ (by omega)]
      · rw [if_neg k, if_neg k]
    · unfold hd_v
      simp only [c, if_false]
theorem hd_u1 (h : hd_R c0 c1 c2 c3 R) {s f : Nat} (hs : s < 12) (hf : f < 8) (v : Int64) : hd_R c0 (va_up c1 s (va_up (c1 s) f v)) c2 c3 (vp_updL R (s * 34 + 12 + f) v) := by
  intro a b ha hb
  by_cases e : a = s ∧ b = 12 + f
  · obtain ⟨rfl, rfl⟩ := e
    unfold hd_v
    rw [if_pos hs, if_pos (by omega), va_up_self, show 12 + f - 12 = f by omega, va_up_self, show 34 * a + (12 + f) = a * 34 + 12 + f by omega, hp_updL]
  · rw [hp_updLn _ _ (by omega), h a b ha hb]
    unfold hd_v
    by_cases c : a < 12
    · rw [if_pos c, if_pos c]
      by_cases k : 12 ≤ b ∧ b < 20
      · rw [if_pos k, if_pos k]
        by_cases es : a = s
        · rw [es, va_up_self, va_up_ne _ _ (by omega)]
        · rw [va_up_ne _ _ es]
      · rw [if_neg k, if_neg k]
    · rw [if_neg c, if_neg c]
theorem hd_u2 (h : hd_R c0 c1 c2 c3 R) {f w : Nat} (hf : f < 8) (hw : w < 12) (v : Int64) : hd_R c0 c1 (va_up c2 f (va_up (c2 f) w v)) c3 (vp_updL R ((12 + f) * 34 + (20 + w)) v) := by
  intro a b ha hb
  by_cases e : a = 12 + f ∧ b = 20 + w
  · obtain ⟨rfl, rfl⟩ := e
    unfold hd_v
    rw [if_neg (by omega), if_pos (by omega), if_pos (by omega), show 12 + f - 12 = f by omega, show 20 + w - 20 = w by omega, va_up_self, va_up_self, show 34 * (12 + f) + (20 + w) = (12 + f) * 34 + (20 + w) by omega, hp_updL]
  · rw [hp_updLn _ _ (by omega), h a b ha hb]
    unfold hd_v
    by_cases c : a < 12
    · rw [if_pos c, if_pos c]
    · rw [if_neg c, if_neg c]
      by_cases c2' : a < 20
      · rw [if_pos c2', if_pos c2']
        by_cases k : 20 ≤ b ∧ b < 32
        · rw [if_pos k, if_pos k]
          by_cases es : a - 12 = f
          · rw [es, va_up_self, va_up_ne _ _ (by omega)]
          · rw [va_up_ne _ _ es]
        · rw [if_neg k, if_neg k]
      · rw [if_neg c2', if_neg c2']
theorem hd_u3 (h : hd_R c0 c1 c2 c3 R) {w : Nat} (hw : w < 12) (v : Int64) : hd_R c0 c1 c2 (va_up c3 w v) (vp_updL R ((20 + w) * 34 + 33) v) := by
  intro a b ha hb
  by_cases e : a = 20 + w ∧ b = 33
  · obtain ⟨rfl, rfl⟩ := e
    unfold hd_v
    rw [if_neg (by omega), if_neg (by omega), if_pos (by omega), if_pos rfl, show 20 + w - 20 = w by omega, va_up_self, show 34 * (20 + w) + 33 = (20 + w) * 34 + 33 by omega, hp_updL]
  · rw [hp_updLn _ _ (by omega), h a b ha hb]
    unfold hd_v
    by_cases c : a < 12
    · rw [if_pos c, if_pos c]
    · rw [if_neg c, if_neg c]
      by_cases c2' : a < 20
      · rw [if_pos c2', if_pos c2']
      · rw [if_neg c2', if_neg c2']
        by_cases c3' : a < 32
        · rw [if_pos c3', if_pos c3']
          by_cases k : b = 33
          · rw [if_pos k, if_pos k, va_up_ne _ _ (by omega)]
          · rw [if_neg k, if_neg k]
        · rw [if_neg c3', if_neg c3']
end HDLAY
theorem hl_t_put0 {F : Nat} {sv : Nat → Nat → Int32} {val : Nat → Nat → Int64} {S x : Nat} : va_up (hl_t F sv val S x) S (va_up (hl_t F sv val S x S) x 0) = hl_t F sv val S x := by
  funext s
  by_cases es : s = S
  · subst es
    rw [va_up_self]
    funext f
    by_cases ef : f = x
    · subst ef
      rw [va_up_self]
      unfold hl_t
      rw [if_neg (by omega)]
    · rw [va_up_ne _ _ ef]
  · rw [va_up_ne _ _ es]
def hd_3 (wk : Nat → Nat) (mo : Nat → Int64) (x : Nat) : Nat → Int64 := fun w => if hd_hf wk x w = true then mo w else 0
theorem hd_3_add (wk : Nat → Nat) (mo : Nat → Int64) (x : Nat) : va_up (hd_3 wk mo x) (wk x) (mo (wk x)) = hd_3 wk mo (x + 1) := by
  funext w
  unfold hd_3
  by_cases e : w = wk x
  · subst e
    rw [va_up_self, if_pos (by show (hd_hf wk x (wk x) || decide (wk x = wk x)) = true; simp)]
  · rw [va_up_ne _ _ e]
    have : hd_hf wk (x + 1) w = hd_hf wk x w := by
      show (hd_hf wk x w || decide (wk x = w)) = hd_hf wk x w
      rw [decide_eq_false (fun q => e q.symm), Bool.or_false]
    rw [this]
section HDLAY2
variable {VS0 VS1 VS2 : Nat} {NS0 NS1 NS2 : Nat → Nat} {LS0 LS4 LS6 LS7 LS8 : Nat → Int64} {IS0 : Nat → Int32}
theorem hd_99 {c0 : Nat → Int64} {c1 : Nat → Nat → Int64} (hF : VS2 ≤ 8) (hwk : ∀ i, NS2 i < 12) : ∀ (m x : Nat) (R : Nat → Int64), VS2 - x < m → x ≤ VS2 → hd_R c0 c1 (hl_2 NS2 LS4 x) (hd_3 NS2 LS8 x) R → hd_R c0 c1 (hl_2 NS2 LS4 VS2) (hd_3 NS2 LS8 VS2) (f_Shortage_clear_h99 VS2 NS2 LS4 LS8 f_Shortage_clear_x99 m x R) := by
  intro m
  induction m with
  | zero => exact fun x R h => absurd h (Nat.not_lt_zero _)
  | succ m ih =>
    intro x R hm hx h
    rw [f_Shortage_clear_h99]
    unfold f_Shortage_clear_h99B
    by_cases c : VS2 ≤ x
    · rw [if_pos c]
      have e : x = VS2 := by omega
      subst e
      exact h
    · rw [if_neg c]
      have k1 := hd_u2 h (f := x) (w := NS2 x) (by omega) (hwk x) (LS4 x)
      rw [hl_2_add] at k1
      have k2 := hd_u3 k1 (w := NS2 x) (hwk x) (LS8 (NS2 x))
      rw [hd_3_add] at k2
      exact ih (x + 1) _ (by omega) (by omega) k2
theorem hd_41 {c0 c3 : Nat → Int64} {c2 : Nat → Nat → Int64} (hF : VS2 ≤ 8) {S : Nat} (hS : S < 12) {Post : (Nat → Int64) → Prop} {k : Nat → (Nat → Int64) → (Nat → Int64)} (hk : ∀ x R, hd_R c0 (hl_t VS2 (hk_sv VS0 NS0 NS1 NS2 IS0) (fun _ _ => 1099511627776) (S + 1) 0) c2 c3 R → Post (k x R)) :
    ∀ (m x : Nat) (R : Nat → Int64), VS2 - x < m → hd_R c0 (hl_t VS2 (hk_sv VS0 NS0 NS1 NS2 IS0) (fun _ _ => 1099511627776) S x) c2 c3 R → Post (f_Shortage_clear_h41 VS2 VS0 NS0 NS1 NS2 IS0 S k m x R) := by
  intro m
  induction m with
  | zero => exact fun x R h => absurd h (Nat.not_lt_zero _)
  | succ m ih =>
    intro x R hm h
    rw [f_Shortage_clear_h41]
    unfold f_Shortage_clear_h41B
    by_cases c : VS2 ≤ x
    · rw [if_pos c]
      rw [hl_t_row c] at h
      exact hk _ _ h
    · rw [if_neg c, hh_bind]
      by_cases e : f_Site_serves VS0 NS0 NS1 NS2 IS0 S x = 0
      · rw [if_pos e]
        have k1 := hd_u1 h hS (show x < 8 by omega) 0
        rw [hl_t_put0, hl_t_skip (sv := hk_sv VS0 NS0 NS1 NS2 IS0) e] at k1
        exact ih (x + 1) _ (by omega) k1
      · rw [if_neg e]
        have k1 := hd_u1 h hS (show x < 8 by omega) 1099511627776
        have e1 := hl_t_add (F := VS2) (sv := hk_sv VS0 NS0 NS1 NS2 IS0) (val := fun _ _ => 1099511627776) (S := S) (x := x) (by omega) e
        rw [e1] at k1
        exact ih (x + 1) _ (by omega) k1
theorem hd_10 {c3 : Nat → Int64} {c2 : Nat → Nat → Int64} (hF : VS2 ≤ 8) (hn12 : VS0 + VS1 ≤ 12) {Post : (Nat → Int64) → Prop} {k : Nat → (Nat → Int64) → (Nat → Int64)} (hk : ∀ x R, hd_R (hl_0 (hk_cp VS0 NS0 LS0 LS6 LS7) (VS0 + VS1)) (hl_t VS2 (hk_sv VS0 NS0 NS1 NS2 IS0) (fun _ _ => 1099511627776) (VS0 + VS1) 0) c2 c3 R → Post (k x R)) :
    ∀ (m x : Nat) (R : Nat → Int64), VS0 + VS1 - x < m → x ≤ VS0 + VS1 → hd_R (hl_0 (hk_cp VS0 NS0 LS0 LS6 LS7) x) (hl_t VS2 (hk_sv VS0 NS0 NS1 NS2 IS0) (fun _ _ => 1099511627776) x 0) c2 c3 R → Post (f_Shortage_clear_h10 VS0 VS1 NS0 LS0 LS6 LS7 VS2 NS1 NS2 IS0 k m x R) := by
  intro m
  induction m with
  | zero => exact fun x R h => absurd h (Nat.not_lt_zero _)
  | succ m ih =>
    intro x R hm hx h
    rw [f_Shortage_clear_h10]
    unfold f_Shortage_clear_h10B
    rw [hh_bind]
    have es : f_Site_sources VS0 VS1 = VS0 + VS1 := rfl
    rw [es]
    by_cases c : VS0 + VS1 ≤ x
    · rw [if_pos c]
      have e : x = VS0 + VS1 := by omega
      subst e
      exact hk _ _ h
    · rw [if_neg c, hh_bind]
      have k1 := hd_u0 h (s := x) (by omega) (hk_cp VS0 NS0 LS0 LS6 LS7 x)
      rw [hl_0_add] at k1
      refine hd_41 hF (by omega) (fun x' R' h' => ?_) 9 0 _ (by omega) k1
      unfold f_Shortage_clear_x41
      exact ih (x + 1) _ (by omega) (by omega) h'
theorem hd_clear (hF : VS2 ≤ 8) (hn12 : VS0 + VS1 ≤ 12) (hwk : ∀ i, NS2 i < 12) (LT0 : Nat → Int64) : hd_R (hl_0 (hk_cp VS0 NS0 LS0 LS6 LS7) (VS0 + VS1)) (hl_t VS2 (hk_sv VS0 NS0 NS1 NS2 IS0) (fun _ _ => 1099511627776) (VS0 + VS1) 0) (hl_2 NS2 LS4 VS2) (hd_3 NS2 LS8 VS2) (f_Shortage_clear LT0 VS0 VS1 VS2 NS0 NS1 NS2 LS0 LS4 LS6 LS7 LS8 IS0) := by
  unfold f_Shortage_clear
  refine hd_10 (Post := hd_R (hl_0 (hk_cp VS0 NS0 LS0 LS6 LS7) (VS0 + VS1)) (hl_t VS2 (hk_sv VS0 NS0 NS1 NS2 IS0) (fun _ _ => 1099511627776) (VS0 + VS1) 0) (hl_2 NS2 LS4 VS2) (hd_3 NS2 LS8 VS2)) (c2 := hl_2 NS2 LS4 0) (c3 := hd_3 NS2 LS8 0) hF hn12 (fun x R h => ?_) 13 0 _ (by omega) (Nat.zero_le _) (fun a b ha hb => ?_)
  · unfold f_Shortage_clear_x10
    exact hd_99 hF hwk 9 0 R (by omega) (Nat.zero_le _) h
  · unfold hh_fillJ
    rw [if_pos (by omega)]
    unfold hd_v hl_0 hl_t hl_2 hd_3
    have e0 : ∀ w, hd_hf NS2 0 w = false := fun _ => rfl
    simp [e0]
end HDLAY2
/-- the class's numbers of the reference's nodes -/
def hd_s (v : Nat) : Nat := if v = 0 then 32 else if v = 33 then 33 else v - 1
theorem hd_s0 : hd_s 0 = 32 := rfl
theorem hd_s33 : hd_s 33 = 33 := rfl
theorem hd_s1 {s : Nat} (h : s < 32) : hd_s (1 + s) = s := by
  unfold hd_s
  rw [if_neg (by omega), if_neg (by omega)]
  omega
theorem hd_lt {v : Nat} (h : v < 34) : hd_s v < 34 := by
  unfold hd_s
  by_cases c : v = 0
  · rw [if_pos c]; omega
  · rw [if_neg c]
    by_cases c2 : v = 33
    · rw [if_pos c2]; omega
    · rw [if_neg c2]; omega
abbrev hd_B (R : Nat → Int64) : Nat → Nat → Int := fun a b => (R (34 * hd_s a + hd_s b)).toInt
theorem hd_ho (R : Nat → Int64) (a : Nat) : ho R (hd_s a) = ho5 (hd_B R) a := by
  unfold ho ho5
  show hs (fun b => (R (34 * hd_s a + b)).toInt) 34 = (R (34 * hd_s a + 32)).toInt + hs (fun s => (R (34 * hd_s a + hd_s (1 + s))).toInt) 12 + hs (fun s => (R (34 * hd_s a + hd_s (13 + s))).toInt) 8 + hs (fun s => (R (34 * hd_s a + hd_s (21 + s))).toInt) 12 + (R (34 * hd_s a + 33)).toInt
  generalize hd_s a = w
  have e1 := hs_split (fun b => (R (34 * w + b)).toInt) 12 22
  have e2 := hs_split (fun b => (R (34 * w + (12 + b))).toInt) 8 14
  have e3 := hs_split (fun b => (R (34 * w + (12 + (8 + b)))).toInt) 12 2
  have f1 : hs (fun s => (R (34 * w + hd_s (1 + s))).toInt) 12 = hs (fun b => (R (34 * w + b)).toInt) 12 := hs_congr (fun i hi => by rw [hd_s1 (by omega)])
  have f2 : hs (fun s => (R (34 * w + hd_s (13 + s))).toInt) 8 = hs (fun b => (R (34 * w + (12 + b))).toInt) 8 := hs_congr (fun i hi => by rw [show 13 + i = 1 + (12 + i) by omega, hd_s1 (by omega)])
  have f3 : hs (fun s => (R (34 * w + hd_s (21 + s))).toInt) 12 = hs (fun b => (R (34 * w + (12 + (8 + b)))).toInt) 12 := hs_congr (fun i hi => by rw [show 21 + i = 1 + (12 + (8 + i)) by omega, hd_s1 (by omega)])
  have e4 : hs (fun b => (R (34 * w + (12 + (8 + (12 + b))))).toInt) 2 = (R (34 * w + 32)).toInt + (R (34 * w + 33)).toInt := by
    have z : (0 : Int) + (R (34 * w + 32)).toInt + (R (34 * w + 33)).toInt = (R (34 * w + 32)).toInt + (R (34 * w + 33)).toInt := by rw [Int.zero_add]
    exact z
  show hs (fun b => (R (34 * w + b)).toInt) (12 + 22) = (R (34 * w + 32)).toInt + hs (fun s => (R (34 * w + hd_s (1 + s))).toInt) 12 + hs (fun s => (R (34 * w + hd_s (13 + s))).toInt) 8 + hs (fun s => (R (34 * w + hd_s (21 + s))).toInt) 12 + (R (34 * w + 33)).toInt
  rw [f1, f2, f3, e1, show hs (fun i => (R (34 * w + (12 + i))).toInt) 22 = hs (fun i => (R (34 * w + (12 + i))).toInt) (8 + 14) from rfl, e2, show hs (fun i => (R (34 * w + (12 + (8 + i)))).toInt) 14 = hs (fun i => (R (34 * w + (12 + (8 + i)))).toInt) (12 + 2) from rfl, e3, e4]
  omega
