/-! ===== networks as they are laid: plans and sets that nothing leaves ===== -/
/-- whether a week has a fill -/
def hd_hf (wk : Nat → Nat) : Nat → Nat → Bool
  | 0, _ => false
  | x + 1, w => hd_hf wk x w || decide (wk x = w)
theorem hd_hf_iff (wk : Nat → Nat) (w : Nat) : ∀ x, hd_hf wk x w = true ↔ ∃ f, f < x ∧ wk f = w
  | 0 => by
    constructor
    · intro h
      exact absurd h Bool.false_ne_true
    · rintro ⟨f, h, -⟩
      exact absurd h (Nat.not_lt_zero _)
  | x + 1 => by
    have ih := hd_hf_iff wk w x
    show (hd_hf wk x w || decide (wk x = w)) = true ↔ _
    rw [Bool.or_eq_true, ih, decide_eq_true_iff]
    constructor
    · rintro (⟨f, h1, h2⟩ | h)
      · exact ⟨f, by omega, h2⟩
      · exact ⟨x, by omega, h⟩
    · rintro ⟨f, h1, h2⟩
      by_cases e : f = x
      · subst e; exact Or.inr h2
      · exact Or.inl ⟨f, by omega, h2⟩
theorem hwk_none {wk : Nat → Nat} {x : Nat → Nat → Int} {n F w : Nat} (h : ¬ hd_hf wk F w = true) : hwk wk x n F w = 0 := by
  refine hs_zero (fun f hf => ?_)
  show (if wk f = w then hcol x n f else 0) = 0
  rw [if_neg (fun e => h ((hd_hf_iff wk w F).mpr ⟨f, hf, e⟩))]
/-- a network with the rests B is one of these sources, fills and weeks -/
def hn_is (n F cuts : Nat) (sv : Nat → Nat → Prop) (cap want : Nat → Int) (wk : Nat → Nat) (most : Nat → Int) (B : Nat → Nat → Int) (v : Int) : Prop :=
  ∃ (c0 : Nat → Int) (c1 : Nat → Nat → Int) (c3 : Nat → Int) (A : Nat → Nat → Int), (∀ a b, a < 34 → b < 34 → A a b = hnA n F c0 c1 want wk c3 a b) ∧ n ≤ 12 ∧ F ≤ 8 ∧ (∀ f, f < F → wk f < 12) ∧ (∀ s f, ¬ (s < n ∧ f < F) → c1 s f = 0) ∧ (∀ s, n ≤ s → c0 s = 0) ∧
    (∀ a b, a < 34 → b < 34 → 0 ≤ B a b) ∧ (∀ a b, a < 34 → b < 34 → B a b + B b a = A a b + A b a) ∧ (∀ a, a < 34 → ho5 B a = ho5 A a + (if a = 33 then v else 0) - (if a = 0 then v else 0)) ∧
    (∀ s, s < n → (s < cuts → c0 s = cap s) ∧ (cuts ≤ s → 1000000000000 ≤ c0 s)) ∧ (∀ s f, s < n → f < F → (sv s f → 1000000000000 ≤ c1 s f) ∧ (¬ sv s f → c1 s f = 0)) ∧
    (∀ w, w < 12 → (hd_hf wk F w = true → c3 w = most w) ∧ (c3 w = most w ∨ c3 w = 0)) ∧ (∀ w, w < 12 → 0 ≤ most w) ∧ hs want F ≤ 100000000
section HNETS
variable {n F cuts : Nat} {sv : Nat → Nat → Prop} {cap want : Nat → Int} {wk : Nat → Nat} {most : Nat → Int} {B : Nat → Nat → Int} {v : Int}
abbrev hn_x (B : Nat → Nat → Int) : Nat → Nat → Int := fun s f => B (13 + f) (1 + s)
theorem hn_small {x : Nat → Nat → Int} (h0 : ∀ s f, s < n → f < F → 0 ≤ x s f) (hcol1 : ∀ f, f < F → hcol x n f ≤ want f) {s f : Nat} (hs1 : s < n) : hrow x F s ≤ hs want F ∧ (f < F → x s f ≤ hs want F) := by
  have h1 : hrow x F s ≤ h2 x n F := hs_elem (f := fun s => hrow x F s) (fun s h => hrow_nn h0 h) hs1
  have h2 : h2 x n F ≤ hs want F := by rw [h2_cols]; exact hs_le hcol1
  refine ⟨by omega, fun hf => ?_⟩
  have h3 : x s f ≤ hrow x F s := hs_elem (f := fun f => x s f) (fun f h => h0 s f hs1 h) hf
  omega
/-- all that is known of such a network's rests -/
theorem hn_all (h : hn_is n F cuts sv cap want wk most B v) : hPP n F cuts sv cap want wk most (hn_x B) ∧ v = h2 (hn_x B) n F ∧
    (∀ s, s < n → B (1 + s) 0 = hrow (hn_x B) F s ∧ (s < cuts → B 0 (1 + s) = cap s - hrow (hn_x B) F s) ∧ (cuts ≤ s → 0 < B 0 (1 + s))) ∧
    (∀ s f, s < n → f < F → (sv s f → 0 < B (1 + s) (13 + f)) ∧ (¬ sv s f → B (1 + s) (13 + f) = 0)) ∧
    (∀ f, f < F → B (21 + wk f) (13 + f) = hcol (hn_x B) n f ∧ B (13 + f) (21 + wk f) = want f - hcol (hn_x B) n f) ∧
    (∀ w, w < 12 → B 33 (21 + w) = hwk wk (hn_x B) n F w ∧ (hd_hf wk F w = true → B (21 + w) 33 = most w - hwk wk (hn_x B) n F w) ∧ (B (21 + w) 33 = most w - hwk wk (hn_x B) n F w ∨ B (21 + w) 33 = 0 - hwk wk (hn_x B) n F w)) ∧
    (∀ a b, a < 34 → b < 34 → 0 < B a b → (a = 0 ∧ ∃ s, s < n ∧ b = 1 + s) ∨ (b = 0 ∧ ∃ s, s < n ∧ a = 1 + s) ∨ (∃ s f, s < n ∧ f < F ∧ a = 1 + s ∧ b = 13 + f) ∨ (∃ s f, s < n ∧ f < F ∧ b = 1 + s ∧ a = 13 + f) ∨ (∃ f, f < F ∧ a = 13 + f ∧ b = 21 + wk f) ∨ (∃ f, f < F ∧ b = 13 + f ∧ a = 21 + wk f) ∨ (∃ w, w < 12 ∧ a = 21 + w ∧ b = 33) ∨ (∃ w, w < 12 ∧ b = 21 + w ∧ a = 33)) := by
  obtain ⟨c0, c1, c3, A, hA, hn12, hF, hwk12, hz, hz0, hB, hpair, hcons, k0, k1, k3, km, kw⟩ := h
  obtain ⟨p1, p2, p3, p4, p5⟩ := hn_read hA hn12 hF hwk12 hz hz0 hB hpair hcons
  have hX : (fun s f => B (13 + f) (1 + s)) = hn_x B := rfl
  rw [hX] at p2 p3 p4 p5
  have xn : ∀ s f, s < n → f < F → 0 ≤ hn_x B s f := fun s f h1 h2 => hB _ _ (by omega) (by omega)
  have xc : ∀ f, f < F → hcol (hn_x B) n f ≤ want f := fun f hf => by
    have := (p3 f hf).2
    have hw := hwk12 f hf
    have b := hB (13 + f) (21 + wk f) (by omega) (by omega)
    omega
  refine ⟨⟨fun s f h1 h2 => ⟨xn s f h1 h2, fun hs1 => ?_⟩, fun s h1 h2 => ?_, xc, fun w hw => ?_⟩, p5, fun s h1 => ⟨(p2 s h1).1, fun hc => ?_, fun hc => ?_⟩, fun s f h1 h2 => ⟨fun hs1 => ?_, fun hs1 => ?_⟩, p3, fun w hw => ⟨(p4 w hw).1, fun hf => ?_, ?_⟩, fun a b ha hb hp => ?_⟩
  · have a := p1 s f (by omega) (by omega)
    rw [(k1 s f h1 h2).2 hs1] at a
    have b := hB (1 + s) (13 + f) (by omega) (by omega)
    have c := xn s f h1 h2
    show B (13 + f) (1 + s) = 0
    have c' : 0 ≤ B (13 + f) (1 + s) := c
    omega
  · have a := (p2 s h1).2
    have b := hB 0 (1 + s) (by omega) (by omega)
    have c := (k0 s h1).1 h2
    omega
  · by_cases c : hd_hf wk F w = true
    · have a := (p4 w hw).2
      have b := hB (21 + w) 33 (by omega) (by omega)
      rw [(k3 w hw).1 c] at a
      omega
    · rw [hwk_none c]
      exact km w hw
  · rw [(p2 s h1).2, (k0 s h1).1 hc]
  · have a := (p2 s h1).2
    have b := (k0 s h1).2 hc
    have c := (hn_small (s := s) (f := 0) xn xc h1).1
    omega
  · have a := p1 s f (by omega) (by omega)
    have b := (k1 s f h1 h2).1 hs1
    have c := (hn_small (s := s) (f := f) xn xc h1).2 h2
    have c' : B (13 + f) (1 + s) ≤ hs want F := c
    omega
  · have a := p1 s f (by omega) (by omega)
    rw [(k1 s f h1 h2).2 hs1] at a
    have b := hB (1 + s) (13 + f) (by omega) (by omega)
    have c : 0 ≤ B (13 + f) (1 + s) := xn s f h1 h2
    omega
  · rw [(p4 w hw).2, (k3 w hw).1 hf]
  · rcases (k3 w hw).2 with z | z
    · exact Or.inl (by rw [(p4 w hw).2, z])
    · exact Or.inr (by rw [(p4 w hw).2, z])
  · have q := hpair a b ha hb
    have b1 := hB b a hb ha
    have hpos : 0 < A a b + A b a := by omega
    have one : ∀ a b, a < 34 → b < 34 → A a b ≠ 0 → (a = 0 ∧ ∃ s, s < n ∧ b = 1 + s) ∨ (∃ s f, s < n ∧ f < F ∧ a = 1 + s ∧ b = 13 + f) ∨ (∃ f, f < F ∧ a = 13 + f ∧ b = 21 + wk f) ∨ (∃ w, w < 12 ∧ a = 21 + w ∧ b = 33) := by
      intro a b ha hb hne
      rw [hA a b ha hb] at hne
      unfold hnA at hne
      by_cases c1' : a = 0
      · rw [if_pos c1'] at hne
        by_cases c2 : 1 ≤ b ∧ b ≤ 12
        · rw [if_pos c2] at hne
          refine Or.inl ⟨c1', b - 1, ?_, by omega⟩
          refine Classical.byContradiction (fun q => hne (hz0 (b - 1) (by omega)))
        · rw [if_neg c2] at hne
          exact absurd rfl hne
      · rw [if_neg c1'] at hne
        by_cases c2 : a ≤ 12
        · rw [if_pos c2] at hne
          by_cases c3' : 13 ≤ b ∧ b ≤ 20
          · rw [if_pos c3'] at hne
            have : a - 1 < n ∧ b - 13 < F := Classical.byContradiction (fun q => hne (hz _ _ q))
            exact Or.inr (Or.inl ⟨a - 1, b - 13, this.1, this.2, by omega, by omega⟩)
          · rw [if_neg c3'] at hne
            exact absurd rfl hne
        · rw [if_neg c2] at hne
          by_cases c3' : a ≤ 20
          · rw [if_pos c3'] at hne
            by_cases c4 : 21 ≤ b ∧ b ≤ 32
            · rw [if_pos c4] at hne
              by_cases c5 : a - 13 < F ∧ b - 21 = wk (a - 13)
              · exact Or.inr (Or.inr (Or.inl ⟨a - 13, c5.1, by omega, by omega⟩))
              · rw [if_neg c5] at hne
                exact absurd rfl hne
            · rw [if_neg c4] at hne
              exact absurd rfl hne
          · rw [if_neg c3'] at hne
            by_cases c4 : a ≤ 32
            · rw [if_pos c4] at hne
              by_cases c5 : b = 33
              · exact Or.inr (Or.inr (Or.inr ⟨a - 21, by omega, by omega, c5⟩))
              · rw [if_neg c5] at hne
                exact absurd rfl hne
            · rw [if_neg c4] at hne
              exact absurd rfl hne
    by_cases z : A a b = 0
    · rcases one b a hb ha (by omega) with ⟨q1, s, q2, q3⟩ | ⟨s, f, q1, q2, q3, q4⟩ | ⟨f, q1, q2, q3⟩ | ⟨w, q1, q2, q3⟩
      · exact Or.inr (Or.inl ⟨q1, s, q2, q3⟩)
      · exact Or.inr (Or.inr (Or.inr (Or.inl ⟨s, f, q1, q2, q3, q4⟩)))
      · exact Or.inr (Or.inr (Or.inr (Or.inr (Or.inr (Or.inl ⟨f, q1, q2, q3⟩)))))
      · exact Or.inr (Or.inr (Or.inr (Or.inr (Or.inr (Or.inr (Or.inr ⟨w, q1, q2, q3⟩))))))
    · rcases one a b ha hb z with ⟨q1, s, q2, q3⟩ | ⟨s, f, q1, q2, q3, q4⟩ | ⟨f, q1, q2, q3⟩ | ⟨w, q1, q2, q3⟩
      · exact Or.inl ⟨q1, s, q2, q3⟩
      · exact Or.inr (Or.inr (Or.inl ⟨s, f, q1, q2, q3, q4⟩))
      · exact Or.inr (Or.inr (Or.inr (Or.inr (Or.inl ⟨f, q1, q2, q3⟩))))
      · exact Or.inr (Or.inr (Or.inr (Or.inr (Or.inr (Or.inr (Or.inl ⟨w, q1, q2, q3⟩))))))
/-- a set that no rest leaves, as a cut of the plan -/
def hn_om (wk : Nat → Nat) (F : Nat) (sn : Nat → Int) (w : Nat) : Int := if hd_hf wk F w = true then sn (21 + w) else 0
theorem hn_cl (h : hn_is n F cuts sv cap want wk most B v) {sn : Nat → Int} (h01' : h01 sn) (hcl1 : ∀ a b, a < 34 → b < 34 → sn a = 1 → 0 < B a b → sn b = 1) :
    hcl n F cuts sv cap want wk most (hn_x B) (sn 0) (sn 33) (fun s => sn (1 + s)) (fun f => sn (13 + f)) (hn_om wk F sn) := by
  obtain ⟨hPPx, q0, q1, q2, q3, q4, q5⟩ := hn_all h
  have hn12 : n ≤ 12 ∧ F ≤ 8 ∧ (∀ f, f < F → wk f < 12) ∧ ∀ a b, a < 34 → b < 34 → 0 ≤ B a b := by
    obtain ⟨c0, c1, c3, A, hA, a1, a2, a3, a4, a5, a6, -⟩ := h
    exact ⟨a1, a2, a3, a6⟩
  obtain ⟨hn12, hF, hwk12, hB⟩ := hn12
  have no : ∀ a b, a < 34 → b < 34 → sn a = 1 → sn b = 0 → B a b = 0 := by
    intro a b ha hb h1 h2
    have := hB a b ha hb
    by_cases c : 0 < B a b
    · have := hcl1 a b ha hb h1 c
      omega
    · omega
  have omf : ∀ f, f < F → hn_om wk F sn (wk f) = sn (21 + wk f) := fun f hf => by
    unfold hn_om
    rw [if_pos ((hd_hf_iff wk (wk f) F).mpr ⟨f, hf, rfl⟩)]
  refine ⟨fun s hs1 => ⟨fun e1 e2 => ?_, fun e1 e2 => ?_⟩, fun s f hs1 hf => ⟨fun e1 e2 hsv => ?_, fun e1 e2 => ?_⟩, fun f hf => ⟨fun e1 e2 => ?_, fun e1 e2 => ?_⟩, fun w hw => ⟨fun e1 e2 => ?_, fun e1 e2 => ?_⟩⟩
  · have z := no 0 (1 + s) (by omega) (by omega) e1 e2
    have k := q1 s hs1
    by_cases c : s < cuts
    · have := k.2.1 c
      exact ⟨c, by omega⟩
    · have := k.2.2 (by omega)
      omega
  · have z := no (1 + s) 0 (by omega) (by omega) e2 e1
    have k := q1 s hs1
    omega
  · have z := no (1 + s) (13 + f) (by omega) (by omega) e1 e2
    have := (q2 s f hs1 hf).1 hsv
    omega
  · exact no (13 + f) (1 + s) (by omega) (by omega) e2 e1
  · have hw := hwk12 f hf
    have e2' : sn (21 + wk f) = 0 := by rw [← omf f hf]; exact e2
    have z := no (13 + f) (21 + wk f) (by omega) (by omega) e1 e2'
    have := (q3 f hf).2
    omega
  · have hw := hwk12 f hf
    have e2' : sn (21 + wk f) = 1 := by rw [← omf f hf]; exact e2
    have z := no (21 + wk f) (13 + f) (by omega) (by omega) e2' e1
    have := (q3 f hf).1
    omega
  · have e1' : hn_om wk F sn w = 1 := e1
    unfold hn_om at e1'
    by_cases c : hd_hf wk F w = true
    · rw [if_pos c] at e1'
      have z := no (21 + w) 33 (by omega) (by omega) e1' e2
      have := (q4 w hw).2.1 c
      omega
    · rw [if_neg c] at e1'
      omega
  · have e1' : hn_om wk F sn w = 0 := e1
    unfold hn_om at e1'
    by_cases c : hd_hf wk F w = true
    · rw [if_pos c] at e1'
      have z := no 33 (21 + w) (by omega) (by omega) e2 e1'
      have := (q4 w hw).1
      omega
    · exact hwk_none c
/-- and back: a cut of the plan, as a set that no rest leaves -/
def hn_S (t e : Int) (sg ph om : Nat → Int) (v : Nat) : Prop := (v = 0 ∧ t = 1) ∨ (∃ s, s < 12 ∧ v = 1 + s ∧ sg s = 1) ∨ (∃ f, f < 8 ∧ v = 13 + f ∧ ph f = 1) ∨ (∃ w, w < 12 ∧ v = 21 + w ∧ om w = 1) ∨ (v = 33 ∧ e = 1)
theorem hn_cl2 (h : hn_is n F cuts sv cap want wk most B v) {t e : Int} {sg ph om : Nat → Int} (ht : t = 0 ∨ t = 1) (he : e = 0 ∨ e = 1) (h1 : h01 sg) (h2' : h01 ph) (h3 : h01 om) (hc : hcl n F cuts sv cap want wk most (hn_x B) t e sg ph om) :
    ∀ a b, a < 34 → b < 34 → hn_S t e sg ph om a → 0 < B a b → hn_S t e sg ph om b := by
  obtain ⟨hPPx, q0, q1, q2, q3, q4, q5⟩ := hn_all h
  have hn12 : n ≤ 12 ∧ F ≤ 8 ∧ (∀ f, f < F → wk f < 12) := by
    obtain ⟨c0, c1, c3, A, hA, a1, a2, a3, -⟩ := h
    exact ⟨a1, a2, a3⟩
  obtain ⟨hn12, hF, hwk12⟩ := hn12
  obtain ⟨k1, k2, k3, k4⟩ := hc
  intro a b ha hb hS hp
  rcases q5 a b ha hb hp with ⟨e1, s, e2, e3⟩ | ⟨e1, s, e2, e3⟩ | ⟨s, f, e1, e2, e3, e4⟩ | ⟨s, f, e1, e2, e3, e4⟩ | ⟨f, e1, e2, e3⟩ | ⟨f, e1, e2, e3⟩ | ⟨w, e1, e2, e3⟩ | ⟨w, e1, e2, e3⟩
  · -- from the start to a source
    have hta : t = 1 := by
      rcases hS with q | ⟨s', _, q, _⟩ | ⟨s', _, q, _⟩ | ⟨s', _, q, _⟩ | q
      · exact q.2
      all_goals omega
    rcases h1 s with z | z
    · have kk := (k1 s e2).1 hta z
      have := (q1 s e2).2.1 kk.1
      rw [e1, e3] at hp
      omega
    · exact Or.inr (Or.inl ⟨s, by omega, e3, z⟩)
  · -- back to the start
    have hsa : sg s = 1 := by
      rcases hS with q | ⟨s', _, q, q'⟩ | ⟨s', _, q, _⟩ | ⟨s', _, q, _⟩ | q
      · omega
      · rw [show s = s' by omega]; exact q'
      all_goals omega
    rcases ht with z | z
    · have kk := (k1 s e2).2 z hsa
      have := (q1 s e2).1
      rw [e1, e3] at hp
      omega
    · exact Or.inl ⟨e1, z⟩
  · have hsa : sg s = 1 := by
      rcases hS with q | ⟨s', _, q, q'⟩ | ⟨s', _, q, _⟩ | ⟨s', _, q, _⟩ | q
      · omega
      · rw [show s = s' by omega]; exact q'
      all_goals omega
    rcases h2' f with z | z
    · have kk := (k2 s f e1 e2).1 hsa z
      have := (q2 s f e1 e2).2 kk
      rw [e3, e4] at hp
      omega
    · exact Or.inr (Or.inr (Or.inl ⟨f, by omega, e4, z⟩))
  · have hsa : ph f = 1 := by
      rcases hS with q | ⟨s', _, q, q'⟩ | ⟨s', _, q, q'⟩ | ⟨s', _, q, _⟩ | q
      · omega
      · omega
      · rw [show f = s' by omega]; exact q'
      all_goals omega
    rcases h1 s with z | z
    · have kk := (k2 s f e1 e2).2 z hsa
      rw [e3, e4] at hp
      have kk' : B (13 + f) (1 + s) = 0 := kk
      omega
    · exact Or.inr (Or.inl ⟨s, by omega, e3, z⟩)
  · have hw := hwk12 f e1
    have hsa : ph f = 1 := by
      rcases hS with q | ⟨s', _, q, q'⟩ | ⟨s', _, q, q'⟩ | ⟨s', _, q, _⟩ | q
      · omega
      · omega
      · rw [show f = s' by omega]; exact q'
      all_goals omega
    rcases h3 (wk f) with z | z
    · have kk := (k3 f e1).1 hsa z
      have := (q3 f e1).2
      rw [e2, e3] at hp
      omega
    · exact Or.inr (Or.inr (Or.inr (Or.inl ⟨wk f, hw, e3, z⟩)))
  · have hw := hwk12 f e1
    have hsa : om (wk f) = 1 := by
      rcases hS with q | ⟨s', _, q, q'⟩ | ⟨s', _, q, q'⟩ | ⟨s', _, q, q'⟩ | q
      · omega
      · omega
      · omega
      · rw [show wk f = s' by omega]; exact q'
      · omega
    rcases h2' f with z | z
    · have kk := (k3 f e1).2 z hsa
      have := (q3 f e1).1
      rw [e2, e3] at hp
      omega
    · exact Or.inr (Or.inr (Or.inl ⟨f, by omega, e2, z⟩))
  · have hsa : om w = 1 := by
      rcases hS with q | ⟨s', _, q, q'⟩ | ⟨s', _, q, q'⟩ | ⟨s', _, q, q'⟩ | q
      · omega
      · omega
      · omega
      · rw [show w = s' by omega]; exact q'
      · omega
    rcases he with z | z
    · have kk := (k4 w e1).1 hsa z
      have nn := hwk_nn (wk := wk) (fun s f a1 a2 => (hPPx.1 s f a1 a2).1) w
      rw [e2, e3] at hp
      rcases (q4 w e1).2.2 with y | y
      · omega
      · omega
    · exact Or.inr (Or.inr (Or.inr (Or.inr ⟨e3, z⟩)))
  · have hsa : e = 1 := by
      rcases hS with q | ⟨s', _, q, q'⟩ | ⟨s', _, q, q'⟩ | ⟨s', _, q, q'⟩ | q
      · omega
      · omega
      · omega
      · omega
      · exact q.2
    rcases h3 w with z | z
    · have kk := (k4 w e1).2 z hsa
      have := (q4 w e1).1
      rw [e2, e3] at hp
      omega
    · exact Or.inr (Or.inr (Or.inr (Or.inl ⟨w, e1, e2, z⟩)))
end HNETS
