/-! ===== sums over the first n numbers; longs that don't overflow ===== -/
def hs (f : Nat → Int) : Nat → Int
  | 0 => 0
  | n + 1 => hs f n + f n
theorem hs_congr {f g : Nat → Int} : ∀ {n : Nat}, (∀ i, i < n → f i = g i) → hs f n = hs g n
  | 0, _ => rfl
  | n + 1, h => by
    show hs f n + f n = hs g n + g n
    rw [hs_congr (fun i hi => h i (Nat.lt_succ_of_lt hi)), h n (Nat.lt_succ_self n)]
theorem hs_le {f g : Nat → Int} : ∀ {n : Nat}, (∀ i, i < n → f i ≤ g i) → hs f n ≤ hs g n
  | 0, _ => Int.le_refl _
  | n + 1, h => by
    have h1 := hs_le (n := n) (fun i hi => h i (Nat.lt_succ_of_lt hi))
    have h2 := h n (Nat.lt_succ_self n)
    show hs f n + f n ≤ hs g n + g n
    omega
theorem hs_lt {f g : Nat → Int} {k : Nat} (hk : f k < g k) : ∀ {n : Nat}, k < n → (∀ i, i < n → f i ≤ g i) → hs f n < hs g n
  | 0, h, _ => absurd h (Nat.not_lt_zero _)
  | n + 1, hn, h => by
    have h2 := h n (Nat.lt_succ_self n)
    show hs f n + f n < hs g n + g n
    by_cases e : k = n
    · subst e
      have h1 := hs_le (n := k) (f := f) (g := g) (fun i hi => h i (Nat.lt_succ_of_lt hi))
      omega
    · have h1 := hs_lt hk (n := n) (by omega) (fun i hi => h i (Nat.lt_succ_of_lt hi))
      omega
theorem hs_const (c : Int) : ∀ n : Nat, hs (fun _ => c) n = c * n
  | 0 => by
    show (0 : Int) = c * ((0 : Nat) : Int)
    simp
  | n + 1 => by
    show hs (fun _ => c) n + c = c * ((n + 1 : Nat) : Int)
    rw [hs_const c n, Int.natCast_succ, Int.mul_add, Int.mul_one]
theorem hs_add (f g : Nat → Int) : ∀ n : Nat, hs (fun i => f i + g i) n = hs f n + hs g n
  | 0 => rfl
  | n + 1 => by
    show hs (fun i => f i + g i) n + (f n + g n) = hs f n + f n + (hs g n + g n)
    rw [hs_add f g n]
    omega
theorem hs_sub (f g : Nat → Int) : ∀ n : Nat, hs (fun i => f i - g i) n = hs f n - hs g n
  | 0 => rfl
  | n + 1 => by
    show hs (fun i => f i - g i) n + (f n - g n) = hs f n + f n - (hs g n + g n)
    rw [hs_sub f g n]
    omega
theorem hs_zero {f : Nat → Int} {n : Nat} (h : ∀ i, i < n → f i = 0) : hs f n = 0 := by
  rw [hs_congr (g := fun _ => 0) h, hs_const]
  omega
theorem hs_comm (f : Nat → Nat → Int) (m : Nat) : ∀ n : Nat, hs (fun i => hs (fun j => f i j) m) n = hs (fun j => hs (fun i => f i j) n) m
  | 0 => (hs_zero (fun _ _ => rfl)).symm
  | n + 1 => by
    show hs (fun i => hs (fun j => f i j) m) n + hs (fun j => f n j) m = hs (fun j => hs (fun i => f i j) n + f n j) m
    rw [hs_comm f m n, hs_add]
theorem h64_add {x y : Int64} (h1 : -9000000000000000000 ≤ x.toInt + y.toInt) (h2 : x.toInt + y.toInt ≤ 9000000000000000000) : (x + y).toInt = x.toInt + y.toInt := by
  rw [Int64.toInt_add]
  exact Int.bmod_eq_of_le (by omega) (by omega)
theorem h64_sub {x y : Int64} (h1 : -9000000000000000000 ≤ x.toInt - y.toInt) (h2 : x.toInt - y.toInt ≤ 9000000000000000000) : (x - y).toInt = x.toInt - y.toInt := by
  rw [Int64.toInt_sub]
  exact Int.bmod_eq_of_le (by omega) (by omega)
theorem h64_le {x y : Int64} : x ≤ y ↔ x.toInt ≤ y.toInt := Int64.le_iff_toInt_le
theorem h64_lt {x y : Int64} : x < y ↔ x.toInt < y.toInt := Int64.lt_iff_toInt_lt
theorem h64_nev : (4000000000000000 : Int64).toInt = 4000000000000000 := by decide
theorem h64_0 : (0 : Int64).toInt = 0 := by decide
/-! ===== the reference's distances: potentials keep them from falling for ever ===== -/
/-- a potential: no arc with a rest is cheaper than the potential's step -/
def hm_pot (R C : Nat → Int64) (pi : Nat → Int) : Prop := ∀ a b, a < 34 → b < 34 → 0 < (R (34 * a + b)).toInt → pi b ≤ pi a + (C (34 * a + b)).toInt
def hm_cb (C : Nat → Int64) : Prop := ∀ k, k < 1156 → -1000000 ≤ (C k).toInt ∧ (C k).toInt ≤ 1000000
def hm_pb (pi : Nat → Int) : Prop := ∀ v, v < 34 → -5000000000000000 ≤ pi v ∧ pi v ≤ 5000000000000000
/-- a node on the tree hangs on one nearer by (distance less potential), or as near and older -/
def hm_up (R C : Nat → Int64) (pi : Nat → Int) (t : Nat → Nat) (far : Nat → Int64) (bef : Nat → Int32) (v : Nat) : Prop :=
  ∃ u, u < 34 ∧ bef v = nI u ∧ (far u).toInt < 4000000000000000 ∧ 0 < (R (34 * u + v)).toInt ∧ (far u).toInt + (C (34 * u + v)).toInt ≤ (far v).toInt ∧
    ((far u).toInt - pi u < (far v).toInt - pi v ∨ ((far u).toInt - pi u = (far v).toInt - pi v ∧ t u < t v))
def hm_Iv (R C : Nat → Int64) (pi : Nat → Int) (src : Nat) (far : Nat → Int64) (bef : Nat → Int32) : Prop :=
  (far src).toInt = 0 ∧ (∀ v, v < 34 → (far v).toInt = 4000000000000000 ∨ ((far v).toInt < 4000000000000000 ∧ pi v - pi src ≤ (far v).toInt)) ∧
  ∃ (t : Nat → Nat) (T : Nat), (∀ v, t v < T) ∧ ∀ v, v < 34 → (far v).toInt < 4000000000000000 → v = src ∨ hm_up R C pi t far bef v
def hm_mu (far : Nat → Int64) : Nat := (hs (fun v => (far v).toInt + 20000000000000000) 34).toNat
theorem hm_relax {R C : Nat → Int64} {pi : Nat → Int} {src : Nat} (hpot : hm_pot R C pi) (hcb : hm_cb C) (hpb : hm_pb pi) (hsrc : src < 34) {far : Nat → Int64} {bef : Nat → Int32} {a b : Nat} (hI : hm_Iv R C pi src far bef) (ha : a < 34) (hb : b < 34)
    (h1 : ¬ 4000000000000000 ≤ far a) (h2 : ¬ R (34 * a + b) ≤ 0) (h3 : ¬ far b ≤ far a + C (34 * a + b)) :
    hm_Iv R C pi src (vp_updL far b (far a + C (34 * a + b))) (upd bef b (nI a)) ∧ hm_mu (vp_updL far b (far a + C (34 * a + b))) < hm_mu far := by
  obtain ⟨hz, hv, t, T, ht, htree⟩ := hI
  rw [h64_le, h64_nev] at h1
  rw [h64_le, h64_0] at h2
  have hc := hcb (34 * a + b) (by omega)
  have hpa := hpb a ha
  have hpbb := hpb b hb
  have hps := hpb src hsrc
  have hva := hv a ha
  have hvb := hv b hb
  have hp := hpot a b ha hb (by omega)
  have hadd : (far a + C (34 * a + b)).toInt = (far a).toInt + (C (34 * a + b)).toInt := h64_add (by omega) (by omega)
  rw [h64_le, hadd] at h3
  have hbs : b ≠ src := by
    intro e
    subst e
    omega
  have hab : a ≠ b := by
    intro e
    subst e
    omega
  generalize hnb : far a + C (34 * a + b) = nb at *
  have hself : vp_updL far b nb b = nb := hp_updL far b nb
  have hother : ∀ v, v ≠ b → vp_updL far b nb v = far v := fun v hv => hp_updLn far nb hv
  refine ⟨⟨by rw [hother src (Ne.symm hbs)]; exact hz, ?_, va_up t b T, T + 1, ?_, ?_⟩, ?_⟩
  · intro v hv1
    by_cases e : v = b
    · subst e
      rw [hself]
      exact Or.inr ⟨by omega, by omega⟩
    · rw [hother v e]
      exact hv v hv1
  · intro v
    by_cases e : v = b
    · subst e
      rw [va_up_self]
      omega
    · rw [va_up_ne _ _ e]
      have := ht v
      omega
  · intro v hv1 hlt
    by_cases e : v = b
    · subst e
      refine Or.inr ⟨a, ha, pk_us, by rw [hother a hab]; omega, by omega, by rw [hother a hab, hself]; omega, ?_⟩
      rw [hother a hab, hself, va_up_ne _ _ hab, va_up_self]
      have := ht a
      omega
    · rw [hother v e] at hlt
      rcases htree v hv1 hlt with e2 | ⟨u, hu, e2, hf, hr, hle, hord⟩
      · exact Or.inl e2
      · refine Or.inr ⟨u, hu, by rw [pk_un e]; exact e2, ?_⟩
        by_cases eu : u = b
        · subst eu
          rw [hself, hother v e]
          refine ⟨by omega, hr, by omega, Or.inl ?_⟩
          omega
        · rw [hother u eu, hother v e]
          refine ⟨hf, hr, hle, ?_⟩
          rw [va_up_ne _ _ eu, va_up_ne _ _ e]
          exact hord
  · unfold hm_mu
    have hlt : hs (fun v => (vp_updL far b nb v).toInt + 20000000000000000) 34 < hs (fun v => (far v).toInt + 20000000000000000) 34 := by
      refine hs_lt (k := b) (by show (vp_updL far b nb b).toInt + 20000000000000000 < (far b).toInt + 20000000000000000; rw [hself]; omega) hb (fun i hi => ?_)
      show (vp_updL far b nb i).toInt + 20000000000000000 ≤ (far i).toInt + 20000000000000000
      by_cases e : i = b
      · subst e
        rw [hself]
        omega
      · rw [hother i e]
        exact Int.le_refl _
    have hge : 0 ≤ hs (fun v => (vp_updL far b nb v).toInt + 20000000000000000) 34 := by
      have h0 : hs (fun _ => (0 : Int)) 34 ≤ hs (fun v => (vp_updL far b nb v).toInt + 20000000000000000) 34 := by
        refine hs_le (fun i hi => ?_)
        show (0 : Int) ≤ (vp_updL far b nb i).toInt + 20000000000000000
        by_cases e : i = b
        · subst e
          rw [hself]
          omega
        · rw [hother i e]
          have h1 := hv i hi
          have h2 := hpb i hi
          omega
      rw [hs_zero (fun _ _ => rfl)] at h0
      exact h0
    omega
theorem hm_init {R C : Nat → Int64} {pi : Nat → Int} {src : Nat} (hsrc : src < 34) (far : Nat → Int64) (bef : Nat → Int32) (h : ∀ v, v < 34 → far v = (fun v => if v = src then (0 : Int64) else 4000000000000000) v) : hm_Iv R C pi src far bef ∧ hm_mu far + 1 < 1000000000000000000000000000000 := by
  have h0 : (far src).toInt = 0 := by
    rw [h src hsrc]
    show (if src = src then (0 : Int64) else 4000000000000000).toInt = 0
    rw [if_pos rfl]
    exact h64_0
  have hn : ∀ v, v < 34 → v ≠ src → (far v).toInt = 4000000000000000 := by
    intro v hv e
    rw [h v hv]
    show (if v = src then (0 : Int64) else 4000000000000000).toInt = _
    rw [if_neg e]
    exact h64_nev
  refine ⟨⟨h0, ?_, fun _ => 0, 1, fun _ => Nat.zero_lt_one, ?_⟩, ?_⟩
  · intro v hv
    by_cases e : v = src
    · subst e
      exact Or.inr ⟨by omega, by omega⟩
    · exact Or.inl (hn v hv e)
  · intro v hv hlt
    by_cases e : v = src
    · exact Or.inl e
    · have := hn v hv e
      omega
  · unfold hm_mu
    have hle : hs (fun v => (far v).toInt + 20000000000000000) 34 ≤ hs (fun _ => 30000000000000000) 34 := by
      refine hs_le (fun v hv => ?_)
      show (far v).toInt + 20000000000000000 ≤ 30000000000000000
      by_cases e : v = src
      · subst e
        omega
      · have := hn v hv e
        omega
    rw [hs_const] at hle
    omega
/-- an arc that can't be used to come nearer -/
def hm_NR (R C far : Nat → Int64) (a b : Nat) : Prop := ¬ 4000000000000000 ≤ far a → ¬ R (34 * a + b) ≤ 0 → far b ≤ far a + C (34 * a + b)
def hm_J (R C : Nat → Int64) (pi : Nat → Int) (src : Nat) (far0 : Nat → Int64) (x2 a b : Nat) (far : Nat → Int64) (bef : Nat → Int32) : Prop :=
  hm_Iv R C pi src far bef ∧ x2 ≤ 1 ∧ hm_mu far + x2 ≤ hm_mu far0 ∧ (x2 = 0 → far = far0 ∧ ∀ a' b', a' < 34 → b' < 34 → (a' < a ∨ (a' = a ∧ b' < b)) → hm_NR R C far0 a' b')
section HDIST
variable {R C : Nat → Int64} {pi : Nat → Int} {src : Nat}
theorem hm_h59 (hpot : hm_pot R C pi) (hcb : hm_cb C) (hpb : hm_pb pi) (hsrc : src < 34) {far0 : Nat → Int64} {a : Nat} (ha : a < 34) {Post : (Nat → Int64) × (Nat → Int32) → Prop} {k : Nat → Nat → (Nat → Int64) → (Nat → Int32) → (Nat → Int64) × (Nat → Int32)}
    (hk : ∀ x2 x4 far bef, hm_J R C pi src far0 x2 (a + 1) 0 far bef → Post (k x2 x4 far bef)) : ∀ (n x2 x4 : Nat) (far : Nat → Int64) (bef : Nat → Int32), 34 - x4 < n → hm_J R C pi src far0 x2 a x4 far bef → Post (f_Model_measure_h59 a R C k n x2 x4 far bef) := by
  intro n
  induction n with
  | zero => exact fun x2 x4 far bef h _ => absurd h (Nat.not_lt_zero _)
  | succ n ih =>
    intro x2 x4 far bef hn hJ
    obtain ⟨hI, h2, hmu, hsc⟩ := hJ
    rw [f_Model_measure_h59]
    unfold f_Model_measure_h59B
    by_cases c1 : 34 ≤ x4
    · rw [if_pos c1]
      exact hk _ _ _ _ ⟨hI, h2, hmu, fun e => ⟨(hsc e).1, fun a' b' p q r => (hsc e).2 a' b' p q (by omega)⟩⟩
    · rw [if_neg c1]
      by_cases c2 : 4000000000000000 ≤ far a
      · rw [if_pos c2]
        refine hk _ _ _ _ ⟨hI, h2, hmu, fun e => ⟨(hsc e).1, fun a' b' p q r => ?_⟩⟩
        by_cases ea : a' = a
        · subst ea
          intro q1
          rw [(hsc e).1] at c2
          exact absurd c2 q1
        · exact (hsc e).2 a' b' p q (by omega)
      · rw [if_neg c2]
        by_cases c3 : R (34 * a + x4) ≤ 0
        · rw [if_pos c3]
          refine ih _ _ _ _ (by omega) ⟨hI, h2, hmu, fun e => ⟨(hsc e).1, fun a' b' p q r => ?_⟩⟩
          by_cases ea : a' = a ∧ b' = x4
          · obtain ⟨rfl, rfl⟩ := ea
            intro _ q2
            exact absurd c3 q2
          · exact (hsc e).2 a' b' p q (by omega)
        · rw [if_neg c3]
          by_cases c4 : far x4 ≤ far a + C (34 * a + x4)
          · rw [if_pos c4]
            refine ih _ _ _ _ (by omega) ⟨hI, h2, hmu, fun e => ⟨(hsc e).1, fun a' b' p q r => ?_⟩⟩
            by_cases ea : a' = a ∧ b' = x4
            · obtain ⟨rfl, rfl⟩ := ea
              intro _ _
              rw [← (hsc e).1]
              exact c4
            · exact (hsc e).2 a' b' p q (by omega)
          · rw [if_neg c4]
            have hr := hm_relax hpot hcb hpb hsrc hI ha (show x4 < 34 by omega) c2 c3 c4
            exact ih _ _ _ _ (by omega) ⟨hr.1, Nat.le_refl 1, by have := hr.2; omega, fun e => absurd e (by decide)⟩
theorem hm_h50 (hpot : hm_pot R C pi) (hcb : hm_cb C) (hpb : hm_pb pi) (hsrc : src < 34) {far0 : Nat → Int64} {Post : (Nat → Int64) × (Nat → Int32) → Prop} {k : Nat → Nat → (Nat → Int64) → (Nat → Int32) → (Nat → Int64) × (Nat → Int32)}
    (hk : ∀ x2 x3 far bef, hm_J R C pi src far0 x2 34 0 far bef → Post (k x2 x3 far bef)) : ∀ (n x2 x3 : Nat) (far : Nat → Int64) (bef : Nat → Int32), 34 - x3 < n → hm_J R C pi src far0 x2 x3 0 far bef → Post (f_Model_measure_h50 R C k n x2 x3 far bef) := by
  intro n
  induction n with
  | zero => exact fun x2 x3 far bef h _ => absurd h (Nat.not_lt_zero _)
  | succ n ih =>
    intro x2 x3 far bef hn hJ
    rw [f_Model_measure_h50]
    unfold f_Model_measure_h50B
    by_cases c1 : 34 ≤ x3
    · rw [if_pos c1]
      obtain ⟨hI, h2, hmu, hsc⟩ := hJ
      exact hk _ _ _ _ ⟨hI, h2, hmu, fun e => ⟨(hsc e).1, fun a' b' p q r => (hsc e).2 a' b' p q (by omega)⟩⟩
    · rw [if_neg c1]
      refine hm_h59 hpot hcb hpb hsrc (show x3 < 34 by omega) (fun x2 x4 far bef hJ => ?_) 35 x2 0 far bef (by omega) hJ
      unfold f_Model_measure_x59
      exact ih _ _ _ _ (by omega) hJ
/-- what measure leaves: a tree of distances that no arc can shorten -/
def hm_Good (R C : Nat → Int64) (pi : Nat → Int) (src : Nat) (r : (Nat → Int64) × (Nat → Int32)) : Prop := hm_Iv R C pi src r.1 r.2 ∧ ∀ a b, a < 34 → b < 34 → hm_NR R C r.1 a b
theorem hm_h42 (hpot : hm_pot R C pi) (hcb : hm_cb C) (hpb : hm_pb pi) (hsrc : src < 34) : ∀ (n x2 : Nat) (far : Nat → Int64) (bef : Nat → Int32), hm_mu far + x2 < n → x2 ≤ 1 → hm_Iv R C pi src far bef → (x2 = 0 → ∀ a b, a < 34 → b < 34 → hm_NR R C far a b) → hm_Good R C pi src (f_Model_measure_h42 R C f_Model_measure_x42 n x2 far bef) := by
  intro n
  induction n with
  | zero => exact fun x2 far bef h _ _ _ => absurd h (Nat.not_lt_zero _)
  | succ n ih =>
    intro x2 far bef hn h2 hI hz
    rw [f_Model_measure_h42]
    unfold f_Model_measure_h42B
    by_cases c1 : x2 = 0
    · rw [if_pos c1]
      exact ⟨hI, hz c1⟩
    · rw [if_neg c1]
      refine hm_h50 hpot hcb hpb hsrc (far0 := far) (fun x2' x3 far' bef' hJ => ?_) 35 0 0 far bef (by omega) ⟨hI, Nat.zero_le 1, Nat.le_refl _, fun _ => ⟨rfl, fun a' b' _ _ r => by omega⟩⟩
      unfold f_Model_measure_x50
      obtain ⟨hI', h2', hmu', hsc'⟩ := hJ
      refine ih x2' far' bef' (by omega) h2' hI' (fun e a b ha hb => ?_)
      rw [(hsc' e).1]
      exact (hsc' e).2 a b ha hb (by omega)
theorem hm_h2 {Post : (Nat → Int64) × (Nat → Int32) → Prop} {k : Nat → (Nat → Int64) → (Nat → Int32) → (Nat → Int64) × (Nat → Int32)} (hk : ∀ x far bef, (∀ v, v < 34 → far v = (fun v => if v = src then (0 : Int64) else 4000000000000000) v) → Post (k x far bef)) :
    ∀ (n x2 : Nat) (far : Nat → Int64) (bef : Nat → Int32), 34 - x2 < n → (∀ v, v < x2 → far v = (fun v => if v = src then (0 : Int64) else 4000000000000000) v) → Post (f_Model_measure_h2 src k n x2 far bef) := by
  intro n
  induction n with
  | zero => exact fun x2 far bef h _ => absurd h (Nat.not_lt_zero _)
  | succ n ih =>
    intro x2 far bef hn hv
    rw [f_Model_measure_h2]
    unfold f_Model_measure_h2B
    by_cases c1 : 34 ≤ x2
    · rw [if_pos c1]
      exact hk _ _ _ (fun v h => hv v (by omega))
    · rw [if_neg c1]
      by_cases c2 : x2 = src
      · rw [if_pos c2]
        exact ih _ _ _ (by omega) (hm_ext (g := fun v => if v = src then (0 : Int64) else 4000000000000000) hv (if_pos c2))
      · rw [if_neg c2]
        exact ih _ _ _ (by omega) (hm_ext (g := fun v => if v = src then (0 : Int64) else 4000000000000000) hv (if_neg c2))
theorem hm_measure (hpot : hm_pot R C pi) (hcb : hm_cb C) (hpb : hm_pb pi) (hsrc : src < 34) (far : Nat → Int64) (bef : Nat → Int32) : hm_Good R C pi src (f_Model_measure R C far bef src) := by
  unfold f_Model_measure
  refine hm_h2 (fun x far bef h => ?_) 35 0 far bef (by omega) (fun v h => absurd h (Nat.not_lt_zero _))
  unfold f_Model_measure_x2
  have h0 := hm_init (R := R) (C := C) (pi := pi) hsrc far bef h
  exact hm_h42 hpot hcb hpb hsrc _ 1 far bef h0.2 (Nat.le_refl 1) h0.1 (fun e => absurd e (by decide))
end HDIST
