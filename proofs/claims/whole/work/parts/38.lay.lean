/-! ===== what lay() lays ===== -/
def hl_v (c0 : Nat → Int64) (c1 c2 : Nat → Nat → Int64) (c3 : Nat → Int64) (a b : Nat) : Int64 :=
  if a = 0 then (if 1 ≤ b ∧ b ≤ 12 then c0 (b - 1) else 0) else if a ≤ 12 then (if 13 ≤ b ∧ b ≤ 20 then c1 (a - 1) (b - 13) else 0) else if a ≤ 20 then (if 21 ≤ b ∧ b ≤ 32 then c2 (a - 13) (b - 21) else 0) else if a ≤ 32 then (if b = 33 then c3 (a - 21) else 0) else 0
def hl_R (c0 : Nat → Int64) (c1 c2 : Nat → Nat → Int64) (c3 : Nat → Int64) (R : Nat → Int64) : Prop := ∀ a b, a < 34 → b < 34 → R (34 * a + b) = hl_v c0 c1 c2 c3 a b
def hl_w (d : Nat → Nat → Int64) (a b : Nat) : Int64 := if (1 ≤ a ∧ a ≤ 12) ∧ 13 ≤ b ∧ b ≤ 20 then d (a - 1) (b - 13) else if (13 ≤ a ∧ a ≤ 20) ∧ 1 ≤ b ∧ b ≤ 12 then -(d (b - 1) (a - 13)) else 0
def hl_C (d : Nat → Nat → Int64) (C : Nat → Int64) : Prop := ∀ a b, a < 34 → b < 34 → C (34 * a + b) = hl_w d a b
section HLAY
variable {c0 c3 : Nat → Int64} {c1 c2 d : Nat → Nat → Int64} {R C : Nat → Int64}
theorem hl_v0 (s : Nat) (h : s < 12) : hl_v c0 c1 c2 c3 0 (1 + s) = c0 s := by
  unfold hl_v
  rw [if_pos rfl, if_pos (by omega), show 1 + s - 1 = s by omega]
theorem hl_v1 (s f : Nat) (h : s < 12) (hf : f < 8) : hl_v c0 c1 c2 c3 (1 + s) (13 + f) = c1 s f := by
  unfold hl_v
  rw [if_neg (by omega), if_pos (by omega), if_pos (by omega), show 1 + s - 1 = s by omega, show 13 + f - 13 = f by omega]
theorem hl_v2 (f w : Nat) (hf : f < 8) (hw : w < 12) : hl_v c0 c1 c2 c3 (13 + f) (21 + w) = c2 f w := by
  unfold hl_v
  rw [if_neg (by omega), if_neg (by omega), if_pos (by omega), if_pos (by omega), show 13 + f - 13 = f by omega, show 21 + w - 21 = w by omega]
theorem hl_v3 (w : Nat) (hw : w < 12) : hl_v c0 c1 c2 c3 (21 + w) 33 = c3 w := by
  unfold hl_v
  rw [if_neg (by omega), if_neg (by omega), if_neg (by omega), if_pos (by omega), if_pos rfl, show 21 + w - 21 = w by omega]
theorem hl_u0 (h : hl_R c0 c1 c2 c3 R) {s : Nat} (hs : s < 12) (v : Int64) : hl_R (va_up c0 s v) c1 c2 c3 (vp_updL R (1 + s) v) := by
  intro a b ha hb
  by_cases e : a = 0 ∧ b = 1 + s
  · obtain ⟨rfl, rfl⟩ := e
    rw [hl_v0 s hs, va_up_self, show 34 * 0 + (1 + s) = 1 + s by omega, hp_updL]
  · rw [hp_updLn _ _ (by omega), h a b ha hb]
    unfold hl_v
    by_cases c : a = 0
    · rw [if_pos c, if_pos c]
      by_cases k : 1 ≤ b ∧ b ≤ 12
      · rw [if_pos k, if_pos k, va_up_ne _ _ (by omega)]
      · rw [if_neg k, if_neg k]
    · rw [if_neg c, if_neg c]
theorem hl_u1 (h : hl_R c0 c1 c2 c3 R) {s f : Nat} (hs : s < 12) (hf : f < 8) (v : Int64) : hl_R c0 (va_up c1 s (va_up (c1 s) f v)) c2 c3 (vp_updL R (34 * (1 + s) + 13 + f) v) := by
  intro a b ha hb
  by_cases e : a = 1 + s ∧ b = 13 + f
  · obtain ⟨rfl, rfl⟩ := e
    rw [hl_v1 s f hs hf, va_up_self, va_up_self, show 34 * (1 + s) + (13 + f) = 34 * (1 + s) + 13 + f by omega, hp_updL]
  · rw [hp_updLn _ _ (by omega), h a b ha hb]
    unfold hl_v
    by_cases c : a = 0
    · rw [if_pos c, if_pos c]
    · rw [if_neg c, if_neg c]
      by_cases c2 : a ≤ 12
      · rw [if_pos c2, if_pos c2]
        by_cases k : 13 ≤ b ∧ b ≤ 20
        · rw [if_pos k, if_pos k]
          by_cases es : a - 1 = s
          · rw [es, va_up_self, va_up_ne _ _ (by omega)]
          · rw [va_up_ne _ _ es]
        · rw [if_neg k, if_neg k]
      · rw [if_neg c2, if_neg c2]
theorem hl_u2 (h : hl_R c0 c1 c2 c3 R) {f w : Nat} (hf : f < 8) (hw : w < 12) (v : Int64) : hl_R c0 c1 (va_up c2 f (va_up (c2 f) w v)) c3 (vp_updL R (34 * (13 + f) + 21 + w) v) := by
  intro a b ha hb
  by_cases e : a = 13 + f ∧ b = 21 + w
  · obtain ⟨rfl, rfl⟩ := e
    rw [hl_v2 f w hf hw, va_up_self, va_up_self, show 34 * (13 + f) + (21 + w) = 34 * (13 + f) + 21 + w by omega, hp_updL]
  · rw [hp_updLn _ _ (by omega), h a b ha hb]
    unfold hl_v
    by_cases c : a = 0
    · rw [if_pos c, if_pos c]
    · rw [if_neg c, if_neg c]
      by_cases c2' : a ≤ 12
      · rw [if_pos c2', if_pos c2']
      · rw [if_neg c2', if_neg c2']
        by_cases c3' : a ≤ 20
        · rw [if_pos c3', if_pos c3']
          by_cases k : 21 ≤ b ∧ b ≤ 32
          · rw [if_pos k, if_pos k]
            by_cases es : a - 13 = f
            · rw [es, va_up_self, va_up_ne _ _ (by omega)]
            · rw [va_up_ne _ _ es]
          · rw [if_neg k, if_neg k]
        · rw [if_neg c3', if_neg c3']
theorem hl_u3 (h : hl_R c0 c1 c2 c3 R) {w : Nat} (hw : w < 12) (v : Int64) : hl_R c0 c1 c2 (va_up c3 w v) (vp_updL R (34 * (21 + w) + 33) v) := by
  intro a b ha hb
  by_cases e : a = 21 + w ∧ b = 33
  · obtain ⟨rfl, rfl⟩ := e
    rw [hl_v3 w hw, va_up_self, hp_updL]
  · rw [hp_updLn _ _ (by omega), h a b ha hb]
    unfold hl_v
    by_cases c : a = 0
    · rw [if_pos c, if_pos c]
    · rw [if_neg c, if_neg c]
      by_cases c2' : a ≤ 12
      · rw [if_pos c2', if_pos c2']
      · rw [if_neg c2', if_neg c2']
        by_cases c3' : a ≤ 20
        · rw [if_pos c3', if_pos c3']
        · rw [if_neg c3', if_neg c3']
          by_cases c4 : a ≤ 32
          · rw [if_pos c4, if_pos c4]
            by_cases k : b = 33
            · rw [if_pos k, if_pos k, va_up_ne _ _ (by omega)]
            · rw [if_neg k, if_neg k]
          · rw [if_neg c4, if_neg c4]
theorem hl_uC (h : hl_C d C) {s f : Nat} (hs : s < 12) (hf : f < 8) (v : Int64) : hl_C (va_up d s (va_up (d s) f v)) (vp_updL (vp_updL C (34 * (1 + s) + 13 + f) v) (34 * (13 + f) + 1 + s) (-((vp_updL C (34 * (1 + s) + 13 + f) v) (34 * (1 + s) + 13 + f)))) := by
  intro a b ha hb
  rw [hp_updL C]
  unfold hl_w
  by_cases e : a = 1 + s ∧ b = 13 + f
  · obtain ⟨rfl, rfl⟩ := e
    rw [hp_updLn _ _ (by omega), show 34 * (1 + s) + (13 + f) = 34 * (1 + s) + 13 + f by omega, hp_updL, if_pos (by omega), show 1 + s - 1 = s by omega, show 13 + f - 13 = f by omega, va_up_self, va_up_self]
  · by_cases e2 : a = 13 + f ∧ b = 1 + s
    · obtain ⟨rfl, rfl⟩ := e2
      rw [show 34 * (13 + f) + (1 + s) = 34 * (13 + f) + 1 + s by omega, hp_updL, if_neg (by omega), if_pos (by omega), show 1 + s - 1 = s by omega, show 13 + f - 13 = f by omega, va_up_self, va_up_self]
    · rw [hp_updLn _ _ (by omega), hp_updLn _ _ (by omega), h a b ha hb]
      unfold hl_w
      by_cases k : (1 ≤ a ∧ a ≤ 12) ∧ 13 ≤ b ∧ b ≤ 20
      · rw [if_pos k, if_pos k]
        by_cases es : a - 1 = s
        · rw [es, va_up_self, va_up_ne _ _ (by omega)]
        · rw [va_up_ne _ _ es]
      · rw [if_neg k, if_neg k]
        by_cases k2 : (13 ≤ a ∧ a ≤ 20) ∧ 1 ≤ b ∧ b ≤ 12
        · rw [if_pos k2, if_pos k2]
          by_cases es : b - 1 = s
          · rw [es, va_up_self, va_up_ne _ _ (by omega)]
          · rw [va_up_ne _ _ es]
        · rw [if_neg k2, if_neg k2]
end HLAY
/-- cells that serve, up to the cell (S, x) -/
def hl_t (F : Nat) (sv : Nat → Nat → Int32) (val : Nat → Nat → Int64) (S x : Nat) : Nat → Nat → Int64 := fun s f => if (s < S ∨ (s = S ∧ f < x)) ∧ f < F ∧ ¬ sv s f = 0 then val s f else 0
theorem hl_t_add {F : Nat} {sv : Nat → Nat → Int32} {val : Nat → Nat → Int64} {S x : Nat} (hx : x < F) (hs : ¬ sv S x = 0) : va_up (hl_t F sv val S x) S (va_up (hl_t F sv val S x S) x (val S x)) = hl_t F sv val S (x + 1) := by
  funext s
  by_cases es : s = S
  · subst es
    rw [va_up_self]
    funext f
    by_cases ef : f = x
    · subst ef
      rw [va_up_self]
      unfold hl_t
      rw [if_pos ⟨by omega, hx, hs⟩]
    · rw [va_up_ne _ _ ef]
      unfold hl_t
      by_cases c : (s < s ∨ (s = s ∧ f < x)) ∧ f < F ∧ ¬ sv s f = 0
      · rw [if_pos c, if_pos ⟨by omega, c.2⟩]
      · rw [if_neg c, if_neg (fun q => c ⟨by omega, q.2⟩)]
  · rw [va_up_ne _ _ es]
    funext f
    unfold hl_t
    by_cases c : (s < S ∨ (s = S ∧ f < x)) ∧ f < F ∧ ¬ sv s f = 0
    · rw [if_pos c, if_pos ⟨by omega, c.2⟩]
    · rw [if_neg c, if_neg (fun q => c ⟨by omega, q.2⟩)]
theorem hl_t_skip {F : Nat} {sv : Nat → Nat → Int32} {val : Nat → Nat → Int64} {S x : Nat} (hs : sv S x = 0) : hl_t F sv val S x = hl_t F sv val S (x + 1) := by
  funext s f
  unfold hl_t
  by_cases c : (s < S ∨ (s = S ∧ f < x)) ∧ f < F ∧ ¬ sv s f = 0
  · rw [if_pos c, if_pos ⟨by omega, c.2⟩]
  · rw [if_neg c]
    by_cases c2 : (s < S ∨ (s = S ∧ f < x + 1)) ∧ f < F ∧ ¬ sv s f = 0
    · exfalso
      obtain ⟨p, q, r⟩ := c2
      by_cases e : s = S ∧ f = x
      · obtain ⟨rfl, rfl⟩ := e
        exact r hs
      · exact c ⟨by omega, q, r⟩
    · rw [if_neg c2]
theorem hl_t_row {F : Nat} {sv : Nat → Nat → Int32} {val : Nat → Nat → Int64} {S x : Nat} (hx : F ≤ x) : hl_t F sv val S x = hl_t F sv val (S + 1) 0 := by
  funext s f
  unfold hl_t
  by_cases c : (s < S ∨ (s = S ∧ f < x)) ∧ f < F ∧ ¬ sv s f = 0
  · rw [if_pos c, if_pos ⟨by omega, c.2⟩]
  · rw [if_neg c, if_neg (fun q => c ⟨by omega, q.2⟩)]
def hl_0 (cap : Nat → Int64) (S : Nat) : Nat → Int64 := fun s => if s < S then cap s else 0
theorem hl_0_add (cap : Nat → Int64) (S : Nat) : va_up (hl_0 cap S) S (cap S) = hl_0 cap (S + 1) := by
  funext s
  unfold hl_0
  by_cases e : s = S
  · subst e
    rw [va_up_self, if_pos (by omega)]
  · rw [va_up_ne _ _ e]
    by_cases c : s < S
    · rw [if_pos c, if_pos (by omega)]
    · rw [if_neg c, if_neg (by omega)]
def hl_2 (wk : Nat → Nat) (wt : Nat → Int64) (x : Nat) : Nat → Nat → Int64 := fun f w => if f < x ∧ w = wk f then wt f else 0
theorem hl_2_add (wk : Nat → Nat) (wt : Nat → Int64) (x : Nat) : va_up (hl_2 wk wt x) x (va_up (hl_2 wk wt x x) (wk x) (wt x)) = hl_2 wk wt (x + 1) := by
  funext f
  by_cases e : f = x
  · subst e
    rw [va_up_self]
    funext w
    by_cases ew : w = wk f
    · subst ew
      rw [va_up_self]
      unfold hl_2
      rw [if_pos ⟨by omega, rfl⟩]
    · rw [va_up_ne _ _ ew]
      unfold hl_2
      rw [if_neg (fun q => ew q.2), if_neg (fun q => ew q.2)]
  · rw [va_up_ne _ _ e]
    funext w
    unfold hl_2
    by_cases c : f < x ∧ w = wk f
    · rw [if_pos c, if_pos ⟨by omega, c.2⟩]
    · rw [if_neg c, if_neg (fun q => c ⟨by omega, q.2⟩)]
