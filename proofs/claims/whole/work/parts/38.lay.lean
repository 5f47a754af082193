/-! ===== what lay() lays ===== -/
def hl_v (c0 : Nat → Int64) (c1 c2 : Nat → Nat → Int64) (c3 : Nat → Int64) (a b : Nat) : Int64 :=
  if a = 0 then (if 1 ≤ b ∧ b ≤ 12 then c0 (b - 1) else 0) else if a ≤ 12 then (if 13 ≤ b ∧ b ≤ 20 then c1 (a - 1) (b - 13) else 0) else if a ≤ 20 then (if 21 ≤ b ∧ b ≤ 32 then c2 (a - 13) (b - 21) else 0) else if a ≤ 32 then (if b = 33 then c3 (a - 21) else 0) else 0
def hl_R (c0 : Nat → Int64) (c1 c2 : Nat → Nat → Int64) (c3 : Nat → Int64) (R : Nat → Int64) : Prop := ∀ a b, a < 34 → b < 34 → R (34 * a + b) = hl_v c0 c1 c2 c3 a b
def hl_w (d : Nat → Nat → Int64) (a b : Nat) : Int64 := if (1 ≤ a ∧ a ≤ 12) ∧ 13 ≤ b ∧ b ≤ 20 then d (a - 1) (b - 13) else if (13 ≤ a ∧ a ≤ 20) ∧ 1 ≤ b ∧ b ≤ 12 then -(d (b - 1) (a - 13)) else 0
def hl_C (d : Nat → Nat → Int64) (C : Nat → Int64) : Prop := ∀ a b, a < 34 → b < 34 → C (34 * a + b) = hl_w d a b
section HLAY
variable {c0 c3 : Nat → Int64} {c1 c2 d : Nat → Nat → Int64} {R C : Nat → Int64}
theorem hl_v0 (s : Nat) (h : s < 12) : hl_v c0 c1 c2 c3 0 (1 + s) = c0 s := by
  unfold hl_v
  rw [if_pos rfl, if_pos (by omega), show 1 + s - 1 = s by omega]
theorem hl_v1 (s f : Nat) (h : s < 12) (hf : f < 8) : hl_v c0 c1 c2 c3 (1 + s) (13 + f) = c1 s f := by
  unfold hl_v
  rw [if_neg (by omega), if_pos (by omega), if_pos (by omega), show 1 + s - 1 = s by omega, show 13 + f - 13 = f by omega]
theorem hl_v2 (f w : Nat) (hf : f < 8) (hw : w < 12) : hl_v c0 c1 c2 c3 (13 + f) (21 + w) = c2 f w := by
  unfold hl_v
  rw [if_neg (by omega), if_neg (by omega), if_pos (by omega), if_pos (by omega), show 13 + f - 13 = f by omega, show 21 + w - 21 = w by omega]
theorem hl_v3 (w : Nat) (hw : w < 12) : hl_v c0 c1 c2 c3 (21 + w) 33 = c3 w := by
  unfold hl_v
  rw [if_neg (by omega), if_neg (by omega), if_neg (by omega), if_pos (by omega), if_pos rfl, show 21 + w - 21 = w by omega]
theorem hl_u0 (h : hl_R c0 c1 c2 c3 R) {s : Nat} (hs : s < 12) (v : Int64) : hl_R (va_up c0 s v) c1 c2 c3 (vp_updL R (1 + s) v) := by
  intro a b ha hb
  by_cases e : a = 0 ∧ b = 1 + s
  · obtain ⟨rfl, rfl⟩ := e
    rw [hl_v0 s hs, va_up_self, show 34 * 0 + (1 + s) = 1 + s by omega, hp_updL]
  · rw [hp_updLn _ _ (by omega), h a b ha hb]
    unfold hl_v
    by_cases c : a = 0
    · rw [if_pos c, if_pos c]
      by_cases k : 1 ≤ b ∧ b ≤ 12
      · rw [if_pos k, if_pos k, va_up_ne _ _ (by omega)]
      · rw [if_neg k, if_neg k]
    · rw [if_neg c, if_neg c]
theorem hl_u1 (h : hl_R c0 c1 c2 c3 R) {s f : Nat} (hs : s < 12) (hf : f < 8) (v : Int64) : hl_R c0 (va_up c1 s (va_up (c1 s) f v)) c2 c3 (vp_updL R (34 * (1 + s) + 13 + f) v) := by
  intro a b ha hb
  by_cases e : a = 1 + s ∧ b = 13 + f
  · obtain ⟨rfl, rfl⟩ := e
    rw [hl_v1 s f hs hf, va_up_self, va_up_self, show 34 * (1 + s) + (13 + f) = 34 * (1 + s) + 13 + f by omega, hp_updL]
  · rw [hp_updLn _ _ (by omega), h a b ha hb]
    unfold hl_v
    by_cases c : a = 0
    · rw [if_pos c, if_pos c]
    · rw [if_neg c, if_neg c]
      by_cases c2 : a ≤ 12
      · rw [if_pos c2, if_pos c2]
        by_cases k : 13 ≤ b ∧ b ≤ 20
        · rw [if_pos k, if_pos k]
          by_cases es : a - 1 = s
          · rw [es, va_up_self, va_up_ne _ _ (by omega)]
          · rw [va_up_ne _ _ es]
        · rw [if_neg k, if_neg k]
      · rw [if_neg c2, if_neg c2]
theorem hl_u2 (h : hl_R c0 c1 c2 c3 R) {f w : Nat} (hf : f < 8) (hw : w < 12) (v : Int64) : hl_R c0 c1 (va_up c2 f (va_up (c2 f) w v)) c3 (vp_updL R (34 * (13 + f) + 21 + w) v) := by
  intro a b ha hb
  by_cases e : a = 13 + f ∧ b = 21 + w
  · obtain ⟨rfl, rfl⟩ := e
    rw [hl_v2 f w hf hw, va_up_self, va_up_self, show 34 * (13 + f) + (21 + w) = 34 * (13 + f) + 21 + w by omega, hp_updL]
  · rw [hp_updLn _ _ (by omega), h a b ha hb]
    unfold hl_v
    by_cases c : a = 0
    · rw [if_pos c, if_pos c]
    · rw [if_neg c, if_neg c]
      by_cases c2' : a ≤ 12
      · rw [if_pos c2', if_pos c2']
      · rw [if_neg c2', if_neg c2']
        by_cases c3' : a ≤ 20
        · rw [if_pos c3', if_pos c3']
          by_cases k : 21 ≤ b ∧ b ≤ 32
          · rw [if_pos k, if_pos k]
            by_cases es : a - 13 = f
            · rw [es, va_up_self, va_up_ne _ _ (by omega)]
            · rw [va_up_ne _ _ es]
          · rw [if_neg k, if_neg k]
        · rw [if_neg c3', if_neg c3']
theorem hl_u3 (h : hl_R c0 c1 c2 c3 R) {w : Nat} (hw : w < 12) (v : Int64) : hl_R c0 c1 c2 (va_up c3 w v) (vp_updL R (34 * (21 + w) + 33) v) := by
  intro a b ha hb
  by_cases e : a = 21 + w ∧ b = 33
  · obtain ⟨rfl, rfl⟩ := e
    rw [hl_v3 w hw, va_up_self, hp_updL]
  · rw [hp_updLn _ _ (by omega), h a b ha hb]
    unfold hl_v
    by_cases c : a = 0
    · rw [if_pos c, if_pos c]
    · rw [if_neg c, if_neg c]
      by_cases c2' : a ≤ 12
      · rw [if_pos c2', if_pos c2']
      · rw [if_neg c2', if_neg c2']
        by_cases c3' : a ≤ 20
        · rw [if_pos c3', if_pos c3']
        · rw [if_neg c3', if_neg c3']
          by_cases c4 : a ≤ 32
          · rw [if_pos c4, if_pos c4]
            by_cases k : b = 33
            · rw [if_pos k, if_pos k, va_up_ne _ _ (by omega)]
            · rw [if_neg k, if_neg k]
          · rw [if_neg c4, if_neg c4]
theorem hl_uC (h : hl_C d C) {s f : Nat} (hs : s < 12) (hf : f < 8) (v : Int64) : hl_C (va_up d s (va_up (d s) f v)) (vp_updL (vp_updL C (34 * (1 + s) + 13 + f) v) (34 * (13 + f) + 1 + s) (-((vp_updL C (34 * (1 + s) + 13 + f) v) (34 * (1 + s) + 13 + f)))) := by
  intro a b ha hb
  rw [hp_updL C]
  unfold hl_w
  by_cases e : a = 1 + s ∧ b = 13 + f
  · obtain ⟨rfl, rfl⟩ := e
    rw [hp_updLn _ _ (by omega), show 34 * (1 + s) + (13 + f) = 34 * (1 + s) + 13 + f by omega, hp_updL, if_pos (by omega), show 1 + s - 1 = s by omega, show 13 + f - 13 = f by omega, va_up_self, va_up_self]
  · by_cases e2 : a = 13 + f ∧ b = 1 + s
    · obtain ⟨rfl, rfl⟩ := e2
      rw [show 34 * (13 + f) + (1 + s) = 34 * (13 + f) + 1 + s by omega, hp_updL, if_neg (by omega), if_pos (by omega), show 1 + s - 1 = s by omega, show 13 + f - 13 = f by omega, va_up_self, va_up_self]
    · rw [hp_updLn _ _ (by omega), hp_updLn _ _ (by omega), h a b ha hb]
      unfold hl_w
      by_cases k : (1 ≤ a ∧ a ≤ 12) ∧ 13 ≤ b ∧ b ≤ 20
      · rw [if_pos k, if_pos k]
        by_cases es : a - 1 = s
        · rw [es, va_up_self, va_up_ne _ _ (by omega)]
        · rw [va_up_ne _ _ es]
      · rw [if_neg k, if_neg k]
        by_cases k2 : (13 ≤ a ∧ a ≤ 20) ∧ 1 ≤ b ∧ b ≤ 12
        · rw [if_pos k2, if_pos k2]
          by_cases es : b - 1 = s
          · rw [es, va_up_self, va_up_ne _ _ (by omega)]
          · rw [va_up_ne _ _ es]
        · rw [if_neg k2, if_neg k2]
end HLAY
/-- cells that serve, up to the cell (S, x) -/
def hl_t (F : Nat) (sv : Nat → Nat → Int32) (val : Nat → Nat → Int64) (S x : Nat) : Nat → Nat → Int64 := fun s f => if (s < S ∨ (s = S ∧ f < x)) ∧ f < F ∧ ¬ sv s f = 0 then val s f else 0
theorem hl_t_add {F : Nat} {sv : Nat → Nat → Int32} {val : Nat → Nat → Int64} {S x : Nat} (hx : x < F) (hs : ¬ sv S x = 0) : va_up (hl_t F sv val S x) S (va_up (hl_t F sv val S x S) x (val S x)) = hl_t F sv val S (x + 1) := by
  funext s
  by_cases es : s = S
  · subst es
    rw [va_up_self]
    funext f
    by_cases ef : f = x
    · subst ef
      rw [va_up_self]
      unfold hl_t
      rw [if_pos ⟨by omega, hx, hs⟩]
    · rw [va_up_ne _ _ ef]
      unfold hl_t
      by_cases c : (s < s ∨ (s = s ∧ f < x)) ∧ f < F ∧ ¬ sv s f = 0
      · rw [if_pos c, if_pos ⟨by omega, c.2⟩]
      · rw [if_neg c, if_neg (fun q => c ⟨by omega, q.2⟩)]
  · rw [va_up_ne _ _ es]
    funext f
    unfold hl_t
    by_cases c : (s < S ∨ (s = S ∧ f < x)) ∧ f < F ∧ ¬ sv s f = 0
    · rw [if_pos c, if_pos ⟨by omega, c.2⟩]
    · rw [if_neg c, if_neg (fun q => c ⟨by omega, q.2⟩)]
theorem hl_t_skip {F : Nat} {sv : Nat → Nat → Int32} {val : Nat → Nat → Int64} {S x : Nat} (hs : sv S x = 0) : hl_t F sv val S x = hl_t F sv val S (x + 1) := by
  funext s f
  unfold hl_t
  by_cases c : (s < S ∨ (s = S ∧ f < x)) ∧ f < F ∧ ¬ sv s f = 0
  · rw [if_pos c, if_pos ⟨by omega, c.2⟩]
  · rw [if_neg c]
    by_cases c2 : (s < S ∨ (s = S ∧ f < x + 1)) ∧ f < F ∧ ¬ sv s f = 0
    · exfalso
      obtain ⟨p, q, r⟩ := c2
      by_cases e : s = S ∧ f = x
      · obtain ⟨rfl, rfl⟩ := e
        exact r hs
      · exact c ⟨by omega, q, r⟩
    · rw [if_neg c2]
theorem hl_t_row {F : Nat} {sv : Nat → Nat → Int32} {val : Nat → Nat → Int64} {S x : Nat} (hx : F ≤ x) : hl_t F sv val S x = hl_t F sv val (S + 1) 0 := by
  funext s f
  unfold hl_t
  by_cases c : (s < S ∨ (s = S ∧ f < x)) ∧ f < F ∧ ¬ sv s f = 0
  · rw [if_pos c, if_pos ⟨by omega, c.2⟩]
  · rw [if_neg c, if_neg (fun q => c ⟨by omega, q.2⟩)]
def hl_0 (cap : Nat → Int64) (S : Nat) : Nat → Int64 := fun s => if s < S then cap s else 0
theorem hl_0_add (cap : Nat → Int64) (S : Nat) : va_up (hl_0 cap S) S (cap S) = hl_0 cap (S + 1) := by
  funext s
  unfold hl_0
  by_cases e : s = S
  · subst e
    rw [va_up_self, if_pos (by omega)]
  · rw [va_up_ne _ _ e]
    by_cases c : s < S
    · rw [if_pos c, if_pos (by omega)]
    · rw [if_neg c, if_neg (by omega)]
def hl_2 (wk : Nat → Nat) (wt : Nat → Int64) (x : Nat) : Nat → Nat → Int64 := fun f w => if f < x ∧ w = wk f then wt f else 0
theorem hl_2_add (wk : Nat → Nat) (wt : Nat → Int64) (x : Nat) : va_up (hl_2 wk wt x) x (va_up (hl_2 wk wt x x) (wk x) (wt x)) = hl_2 wk wt (x + 1) := by
  funext f
  by_cases e : f = x
  · subst e
    rw [va_up_self]
    funext w
    by_cases ew : w = wk f
    · subst ew
      rw [va_up_self]
      unfold hl_2
      rw [if_pos ⟨by omega, rfl⟩]
    · rw [va_up_ne _ _ ew]
      unfold hl_2
      rw [if_neg (fun q => ew q.2), if_neg (fun q => ew q.2)]
  · rw [va_up_ne _ _ e]
    funext w
    unfold hl_2
    by_cases c : f < x ∧ w = wk f
    · rw [if_pos c, if_pos ⟨by omega, c.2⟩]
    · rw [if_neg c, if_neg (fun q => c ⟨by omega, q.2⟩)]
section HLAY2
variable {VM1 VM2 VM3 VM4 : Nat} {NM0 NM1 NM2 : Nat → Nat} {LM0 LM1 LM2 LM3 LM4 LM5 LM6 LM7 LM8 LM9 LM10 LM11 : Nat → Int64} {IM0 IM1 : Nat → Int32} {x1 x2 x5 : Int32} {x3 : Int64}
abbrev hl_sv (VM1 : Nat) (NM0 NM1 NM2 : Nat → Nat) (IM0 : Nat → Int32) : Nat → Nat → Int32 := fun s f => f_Model_serves VM1 NM0 NM1 NM2 IM0 s f
abbrev hl_un (VM1 VM3 : Nat) (NM2 : Nat → Nat) (LM1 LM3 LM6 LM7 LM8 LM9 LM10 : Nat → Int64) (IM1 : Nat → Int32) (x5 : Int32) : Nat → Nat → Int64 := fun s f => f_Model_unit VM1 VM3 NM2 LM1 LM3 LM6 LM7 LM8 LM9 LM10 IM1 s f x5
def hl_cap (VM1 : Nat) (NM0 : Nat → Nat) (LM0 LM4 LM5 : Nat → Int64) (x1 : Int32) : Nat → Int64 := fun s => if s < VM1 then (if nI s = x1 then f_Model_gives NM0 LM0 LM4 LM5 s - 1 else f_Model_gives NM0 LM0 LM4 LM5 s - 0) else 1000000000000
def hl_wt (LM2 : Nat → Int64) (x2 : Int32) (x3 : Int64) : Nat → Int64 := fun f => if nI f = x2 then LM2 f + x3 else LM2 f + 0
theorem hl_259 {c0 : Nat → Int64} {c1 c2 : Nat → Nat → Int64} {C : Nat → Int64} : ∀ (n x : Nat) (R : Nat → Int64), 12 - x < n → x ≤ 12 → hl_R c0 c1 c2 (hl_0 LM11 x) R → hl_R c0 c1 c2 (hl_0 LM11 12) (f_Model_lay_h259 LM11 (f_Model_lay_x259 C) n x R).1 ∧ (f_Model_lay_h259 LM11 (f_Model_lay_x259 C) n x R).2 = C := by
  intro n
  induction n with
  | zero => exact fun x R h _ _ => absurd h (Nat.not_lt_zero _)
  | succ n ih =>
    intro x R hn hx h
    rw [f_Model_lay_h259]
    unfold f_Model_lay_h259B
    by_cases c : 12 ≤ x
    · rw [if_pos c]
      obtain rfl : x = 12 := by omega
      exact ⟨h, rfl⟩
    · rw [if_neg c]
      have h2 := hl_u3 h (show x < 12 by omega) (LM11 x)
      rw [hl_0_add] at h2
      exact ih (x + 1) _ (by omega) (by omega) h2
theorem hl_198 {c0 c3 : Nat → Int64} {c1 : Nat → Nat → Int64} (hF : VM2 ≤ 8) (hwk : ∀ i, NM2 i < 12) {Post : (Nat → Int64) × (Nat → Int64) → Prop} {k : Nat → (Nat → Int64) → (Nat → Int64) × (Nat → Int64)} (hk : ∀ x R, hl_R c0 c1 (hl_2 NM2 (hl_wt LM2 x2 x3) VM2) c3 R → Post (k x R)) :
    ∀ (n x : Nat) (R : Nat → Int64), VM2 - x < n → x ≤ VM2 → hl_R c0 c1 (hl_2 NM2 (hl_wt LM2 x2 x3) x) c3 R → Post (f_Model_lay_h198 VM2 x2 NM2 LM2 x3 k n x R) := by
  intro n
  induction n with
  | zero => exact fun x R h _ _ => absurd h (Nat.not_lt_zero _)
  | succ n ih =>
    intro x R hn hx h
    rw [f_Model_lay_h198]
    unfold f_Model_lay_h198B
    by_cases c : VM2 ≤ x
    · rw [if_pos c]
      obtain rfl : x = VM2 := by omega
      exact hk _ _ h
    · rw [if_neg c]
      have h2 := hl_u2 h (show x < 8 by omega) (hwk x) (hl_wt LM2 x2 x3 x)
      rw [hl_2_add] at h2
      by_cases e : nI x = x2
      · rw [if_pos e]
        rw [show hl_wt LM2 x2 x3 x = LM2 x + x3 from if_pos e] at h2
        exact ih (x + 1) _ (by omega) (by omega) h2
      · rw [if_neg e]
        rw [show hl_wt LM2 x2 x3 x = LM2 x + 0 from if_neg e] at h2
        exact ih (x + 1) _ (by omega) (by omega) h2
theorem hl_95 {c0 c3 : Nat → Int64} {c2 : Nat → Nat → Int64} (hF : VM2 ≤ 8) {S : Nat} (hS : S < 12) {Post : (Nat → Int64) × (Nat → Int64) → Prop} {k : Nat → (Nat → Int64) → (Nat → Int64) → (Nat → Int64) × (Nat → Int64)}
    (hk : ∀ x R C, hl_R c0 (hl_t VM2 (hl_sv VM1 NM0 NM1 NM2 IM0) (fun _ _ => 1000000000000) (S + 1) 0) c2 c3 R → hl_C (hl_t VM2 (hl_sv VM1 NM0 NM1 NM2 IM0) (hl_un VM1 VM3 NM2 LM1 LM3 LM6 LM7 LM8 LM9 LM10 IM1 x5) (S + 1) 0) C → Post (k x R C)) :
    ∀ (n x : Nat) (R C : Nat → Int64), VM2 - x < n → hl_R c0 (hl_t VM2 (hl_sv VM1 NM0 NM1 NM2 IM0) (fun _ _ => 1000000000000) S x) c2 c3 R → hl_C (hl_t VM2 (hl_sv VM1 NM0 NM1 NM2 IM0) (hl_un VM1 VM3 NM2 LM1 LM3 LM6 LM7 LM8 LM9 LM10 IM1 x5) S x) C →
      Post (f_Model_lay_h95 VM2 VM1 NM0 NM1 NM2 IM0 S VM3 LM1 LM3 LM6 LM7 LM8 LM9 LM10 IM1 x5 k n x R C) := by
  intro n
  induction n with
  | zero => exact fun x R C h _ _ => absurd h (Nat.not_lt_zero _)
  | succ n ih =>
    intro x R C hn hR hC
    rw [f_Model_lay_h95]
    unfold f_Model_lay_h95B
    by_cases c : VM2 ≤ x
    · rw [if_pos c]
      rw [hl_t_row c] at hR hC
      exact hk _ _ _ hR hC
    · rw [if_neg c, hh_bind]
      by_cases e : f_Model_serves VM1 NM0 NM1 NM2 IM0 S x = 0
      · rw [if_pos e]
        rw [hl_t_skip (sv := hl_sv VM1 NM0 NM1 NM2 IM0) e] at hR hC
        exact ih (x + 1) _ _ (by omega) hR hC
      · rw [if_neg e, hh_bind]
        have h1 := hl_u1 hR hS (show x < 8 by omega) 1000000000000
        have h2 := hl_uC hC hS (show x < 8 by omega) (f_Model_unit VM1 VM3 NM2 LM1 LM3 LM6 LM7 LM8 LM9 LM10 IM1 S x x5)
        have e1 := hl_t_add (F := VM2) (sv := hl_sv VM1 NM0 NM1 NM2 IM0) (val := fun _ _ => 1000000000000) (S := S) (x := x) (by omega) e
        have e2 := hl_t_add (F := VM2) (sv := hl_sv VM1 NM0 NM1 NM2 IM0) (val := hl_un VM1 VM3 NM2 LM1 LM3 LM6 LM7 LM8 LM9 LM10 IM1 x5) (S := S) (x := x) (by omega) e
        rw [e1] at h1
        rw [e2] at h2
        exact ih (x + 1) _ _ (by omega) h1 h2
theorem hl_36 {c3 : Nat → Int64} {c2 : Nat → Nat → Int64} (hF : VM2 ≤ 8) (hn12 : VM1 + VM4 ≤ 12) {Post : (Nat → Int64) × (Nat → Int64) → Prop} {k : Nat → (Nat → Int64) → (Nat → Int64) → (Nat → Int64) × (Nat → Int64)}
    (hk : ∀ x R C, hl_R (hl_0 (hl_cap VM1 NM0 LM0 LM4 LM5 x1) (VM1 + VM4)) (hl_t VM2 (hl_sv VM1 NM0 NM1 NM2 IM0) (fun _ _ => 1000000000000) (VM1 + VM4) 0) c2 c3 R → hl_C (hl_t VM2 (hl_sv VM1 NM0 NM1 NM2 IM0) (hl_un VM1 VM3 NM2 LM1 LM3 LM6 LM7 LM8 LM9 LM10 IM1 x5) (VM1 + VM4) 0) C → Post (k x R C)) :
    ∀ (n x : Nat) (R C : Nat → Int64), VM1 + VM4 - x < n → x ≤ VM1 + VM4 → hl_R (hl_0 (hl_cap VM1 NM0 LM0 LM4 LM5 x1) x) (hl_t VM2 (hl_sv VM1 NM0 NM1 NM2 IM0) (fun _ _ => 1000000000000) x 0) c2 c3 R → hl_C (hl_t VM2 (hl_sv VM1 NM0 NM1 NM2 IM0) (hl_un VM1 VM3 NM2 LM1 LM3 LM6 LM7 LM8 LM9 LM10 IM1 x5) x 0) C →
      Post (f_Model_lay_h36 VM1 VM4 NM0 LM0 LM4 LM5 x1 VM2 NM1 NM2 IM0 VM3 LM1 LM3 LM6 LM7 LM8 LM9 LM10 IM1 x5 k n x R C) := by
  intro n
  induction n with
  | zero => exact fun x R C h _ _ _ => absurd h (Nat.not_lt_zero _)
  | succ n ih =>
    intro x R C hn hx hR hC
    rw [f_Model_lay_h36]
    unfold f_Model_lay_h36B
    by_cases c : VM1 + VM4 ≤ x
    · rw [if_pos c]
      obtain rfl : x = VM1 + VM4 := by omega
      exact hk _ _ _ hR hC
    · rw [if_neg c]
      have go : ∀ v, v = hl_cap VM1 NM0 LM0 LM4 LM5 x1 x → Post (f_Model_lay_h95 VM2 VM1 NM0 NM1 NM2 IM0 x VM3 LM1 LM3 LM6 LM7 LM8 LM9 LM10 IM1 x5 (f_Model_lay_x95 (fun x6_36 LM13_36 LM14_36 => f_Model_lay_h36 VM1 VM4 NM0 LM0 LM4 LM5 x1 VM2 NM1 NM2 IM0 VM3 LM1 LM3 LM6 LM7 LM8 LM9 LM10 IM1 x5 k n x6_36 LM13_36 LM14_36) x) 9 0 (vp_updL R (1 + x) v) C) := by
        intro v hv
        subst hv
        have h1 := hl_u0 hR (show x < 12 by omega) (hl_cap VM1 NM0 LM0 LM4 LM5 x1 x)
        rw [hl_0_add] at h1
        refine hl_95 hF (show x < 12 by omega) (fun x7 R C hR hC => ?_) 9 0 _ C (by omega) h1 hC
        unfold f_Model_lay_x95
        exact ih (x + 1) _ _ (by omega) (by omega) hR hC
      by_cases c2 : x < VM1
      · rw [if_pos c2, hh_bind]
        by_cases c3 : nI x = x1
        · rw [if_pos c3]
          exact go _ (by unfold hl_cap; rw [if_pos c2, if_pos c3])
        · rw [if_neg c3]
          exact go _ (by unfold hl_cap; rw [if_pos c2, if_neg c3])
      · rw [if_neg c2]
        exact go _ (by unfold hl_cap; rw [if_neg c2])
theorem hl_3 {Post : (Nat → Int64) × (Nat → Int64) → Prop} {k : Nat → (Nat → Int64) → (Nat → Int64) → (Nat → Int64) × (Nat → Int64)} (hk : ∀ x R C, (∀ i, i < 1156 → R i = 0) → (∀ i, i < 1156 → C i = 0) → Post (k x R C)) :
    ∀ (n x : Nat) (R C : Nat → Int64), 1156 - x < n → (∀ i, i < x → R i = (fun _ => (0 : Int64)) i) → (∀ i, i < x → C i = (fun _ => (0 : Int64)) i) → Post (f_Model_lay_h3 k n x R C) := by
  intro n
  induction n with
  | zero => exact fun x R C h _ _ => absurd h (Nat.not_lt_zero _)
  | succ n ih =>
    intro x R C hn hR hC
    rw [f_Model_lay_h3]
    unfold f_Model_lay_h3B
    by_cases c : 1156 ≤ x
    · rw [if_pos c]
      exact hk _ _ _ (fun i hi => hR i (by omega)) (fun i hi => hC i (by omega))
    · rw [if_neg c]
      exact ih (x + 1) _ _ (by omega) (hm_ext (g := fun _ => 0) hR rfl) (hm_ext (g := fun _ => 0) hC rfl)
/-- the network that lay() lays -/
def hl_is (c0 : Nat → Int64) (c1 c2 : Nat → Nat → Int64) (c3 : Nat → Int64) (d : Nat → Nat → Int64) (r : (Nat → Int64) × (Nat → Int64)) : Prop := hl_R c0 c1 c2 c3 r.1 ∧ hl_C d r.2
theorem f_Model_lay_is (hF : VM2 ≤ 8) (hn12 : VM1 + VM4 ≤ 12) (hwk : ∀ i, NM2 i < 12) (LM13 LM14 : Nat → Int64) :
    hl_is (hl_0 (hl_cap VM1 NM0 LM0 LM4 LM5 x1) (VM1 + VM4)) (hl_t VM2 (hl_sv VM1 NM0 NM1 NM2 IM0) (fun _ _ => 1000000000000) (VM1 + VM4) 0) (hl_2 NM2 (hl_wt LM2 x2 x3) VM2) (hl_0 LM11 12) (hl_t VM2 (hl_sv VM1 NM0 NM1 NM2 IM0) (hl_un VM1 VM3 NM2 LM1 LM3 LM6 LM7 LM8 LM9 LM10 IM1 x5) (VM1 + VM4) 0)
      (f_Model_lay VM1 VM2 VM3 VM4 NM0 NM1 NM2 LM0 LM1 LM2 LM3 LM4 LM5 LM6 LM7 LM8 LM9 LM10 LM11 LM13 LM14 IM0 IM1 x1 x2 x3 x5) := by
  unfold f_Model_lay
  refine hl_3 (Post := hl_is _ _ _ _ _) (fun x R C hR hC => ?_) 1157 0 LM13 LM14 (by omega) (fun i h => absurd h (Nat.not_lt_zero _)) (fun i h => absurd h (Nat.not_lt_zero _))
  unfold f_Model_lay_x3
  refine hl_36 (Post := hl_is _ _ _ _ _) (c2 := hl_2 NM2 (hl_wt LM2 x2 x3) 0) (c3 := hl_0 LM11 0) hF hn12 (fun x R C hR hC => ?_) 13 0 R C (by omega) (Nat.zero_le _) (fun a b ha hb => ?_) (fun a b ha hb => ?_)
  · unfold f_Model_lay_x36
    refine hl_198 (Post := hl_is _ _ _ _ _) hF hwk (fun x R hR => ?_) 9 0 R (by omega) (Nat.zero_le _) hR
    unfold f_Model_lay_x198
    have h := hl_259 (LM11 := LM11) (C := C) 13 0 R (by omega) (by omega) hR
    exact ⟨h.1, by rw [h.2]; exact hC⟩
  · rw [hR _ (by omega)]
    have e0 : ∀ s, hl_0 (hl_cap VM1 NM0 LM0 LM4 LM5 x1) 0 s = 0 := fun s => if_neg (Nat.not_lt_zero _)
    have e1 : ∀ s f, hl_t VM2 (hl_sv VM1 NM0 NM1 NM2 IM0) (fun _ _ => 1000000000000) 0 0 s f = 0 := fun s f => if_neg (fun q => by omega)
    have e2 : ∀ f w, hl_2 NM2 (hl_wt LM2 x2 x3) 0 f w = 0 := fun f w => if_neg (fun q => by omega)
    have e3 : ∀ w, hl_0 LM11 0 w = 0 := fun w => if_neg (Nat.not_lt_zero _)
    unfold hl_v
    simp only [e0, e1, e2, e3, ite_self]
  · rw [hC _ (by omega)]
    have e1 : ∀ s f, hl_t VM2 (hl_sv VM1 NM0 NM1 NM2 IM0) (hl_un VM1 VM3 NM2 LM1 LM3 LM6 LM7 LM8 LM9 LM10 IM1 x5) 0 0 s f = 0 := fun s f => if_neg (fun q => by omega)
    have e4 : -(0 : Int64) = 0 := by decide
    unfold hl_w
    simp only [e1, e4, ite_self]
end HLAY2
