abbrev b_Model_order : ByteArray := prog_7_method_24_code
def y_Model_order : MethodName := ⟨R_Model, "order", "()V"⟩
def u_Model_order : List Cond := Cond.code y_Model_order b_Model_order 9 none :: wG
theorem d_Model_order_0 : decode b_Model_order 0 = .ok (.iconst 0, 1) := by decide +kernel
theorem d_Model_order_1 : decode b_Model_order 1 = .ok (.istore_n 1, 1) := by decide +kernel
theorem d_Model_order_2 : decode b_Model_order 2 = .ok (.iload_n 1, 1) := by decide +kernel
theorem d_Model_order_3 : decode b_Model_order 3 = .ok (.aload_n 0, 1) := by decide +kernel
theorem d_Model_order_4 : decode b_Model_order 4 = .ok (.getfield 99, 3) := by decide +kernel
theorem d_Model_order_7 : decode b_Model_order 7 = .ok (.aload_n 0, 1) := by decide +kernel
theorem d_Model_order_8 : decode b_Model_order 8 = .ok (.getfield 113, 3) := by decide +kernel
theorem d_Model_order_11 : decode b_Model_order 11 = .ok (.iadd, 1) := by decide +kernel
theorem d_Model_order_12 : decode b_Model_order 12 = .ok (.if_icmp .ge 169, 3) := by decide +kernel
theorem d_Model_order_15 : decode b_Model_order 15 = .ok (.iconst 0, 1) := by decide +kernel
theorem d_Model_order_16 : decode b_Model_order 16 = .ok (.istore_n 2, 1) := by decide +kernel
theorem d_Model_order_17 : decode b_Model_order 17 = .ok (.iload_n 2, 1) := by decide +kernel
theorem d_Model_order_18 : decode b_Model_order 18 = .ok (.aload_n 0, 1) := by decide +kernel
theorem d_Model_order_19 : decode b_Model_order 19 = .ok (.getfield 105, 3) := by decide +kernel
theorem d_Model_order_22 : decode b_Model_order 22 = .ok (.if_icmp .ge 153, 3) := by decide +kernel
theorem d_Model_order_25 : decode b_Model_order 25 = .ok (.bipush 34, 2) := by decide +kernel
theorem d_Model_order_27 : decode b_Model_order 27 = .ok (.iconst 1, 1) := by decide +kernel
theorem d_Model_order_28 : decode b_Model_order 28 = .ok (.iload_n 1, 1) := by decide +kernel
theorem d_Model_order_29 : decode b_Model_order 29 = .ok (.iadd, 1) := by decide +kernel
theorem d_Model_order_30 : decode b_Model_order 30 = .ok (.imul, 1) := by decide +kernel
theorem d_Model_order_31 : decode b_Model_order 31 = .ok (.bipush 13, 2) := by decide +kernel
theorem d_Model_order_33 : decode b_Model_order 33 = .ok (.iadd, 1) := by decide +kernel
theorem d_Model_order_34 : decode b_Model_order 34 = .ok (.iload_n 2, 1) := by decide +kernel
theorem d_Model_order_35 : decode b_Model_order 35 = .ok (.iadd, 1) := by decide +kernel
theorem d_Model_order_36 : decode b_Model_order 36 = .ok (.istore_n 3, 1) := by decide +kernel
theorem d_Model_order_37 : decode b_Model_order 37 = .ok (.bipush 34, 2) := by decide +kernel
theorem d_Model_order_39 : decode b_Model_order 39 = .ok (.bipush 13, 2) := by decide +kernel
theorem d_Model_order_41 : decode b_Model_order 41 = .ok (.iload_n 2, 1) := by decide +kernel
theorem d_Model_order_42 : decode b_Model_order 42 = .ok (.iadd, 1) := by decide +kernel
theorem d_Model_order_43 : decode b_Model_order 43 = .ok (.imul, 1) := by decide +kernel
theorem d_Model_order_44 : decode b_Model_order 44 = .ok (.iconst 1, 1) := by decide +kernel
theorem d_Model_order_45 : decode b_Model_order 45 = .ok (.iadd, 1) := by decide +kernel
theorem d_Model_order_46 : decode b_Model_order 46 = .ok (.iload_n 1, 1) := by decide +kernel
theorem d_Model_order_47 : decode b_Model_order 47 = .ok (.iadd, 1) := by decide +kernel
theorem d_Model_order_48 : decode b_Model_order 48 = .ok (.istore 4, 2) := by decide +kernel
theorem d_Model_order_50 : decode b_Model_order 50 = .ok (.aload_n 0, 1) := by decide +kernel
theorem d_Model_order_51 : decode b_Model_order 51 = .ok (.iload_n 1, 1) := by decide +kernel
theorem d_Model_order_52 : decode b_Model_order 52 = .ok (.iload_n 2, 1) := by decide +kernel
theorem d_Model_order_53 : decode b_Model_order 53 = .ok (.invokevirtual 129, 3) := by decide +kernel
theorem d_Model_order_56 : decode b_Model_order 56 = .ok (.ifCond .eq 101, 3) := by decide +kernel
theorem d_Model_order_59 : decode b_Model_order 59 = .ok (.aload_n 0, 1) := by decide +kernel
theorem d_Model_order_60 : decode b_Model_order 60 = .ok (.getfield 69, 3) := by decide +kernel
theorem d_Model_order_63 : decode b_Model_order 63 = .ok (.iload 4, 2) := by decide +kernel
theorem d_Model_order_65 : decode b_Model_order 65 = .ok (.laload, 1) := by decide +kernel
theorem d_Model_order_66 : decode b_Model_order 66 = .ok (.lstore 5, 2) := by decide +kernel
theorem d_Model_order_68 : decode b_Model_order 68 = .ok (.aload_n 0, 1) := by decide +kernel
theorem d_Model_order_69 : decode b_Model_order 69 = .ok (.getfield 72, 3) := by decide +kernel
theorem d_Model_order_72 : decode b_Model_order 72 = .ok (.iload_n 3, 1) := by decide +kernel
theorem d_Model_order_73 : decode b_Model_order 73 = .ok (.laload, 1) := by decide +kernel
theorem d_Model_order_74 : decode b_Model_order 74 = .ok (.lstore 7, 2) := by decide +kernel
theorem d_Model_order_76 : decode b_Model_order 76 = .ok (.aload_n 0, 1) := by decide +kernel
theorem d_Model_order_77 : decode b_Model_order 77 = .ok (.getfield 69, 3) := by decide +kernel
theorem d_Model_order_80 : decode b_Model_order 80 = .ok (.iload_n 3, 1) := by decide +kernel
theorem d_Model_order_81 : decode b_Model_order 81 = .ok (.lconst 0, 1) := by decide +kernel
theorem d_Model_order_82 : decode b_Model_order 82 = .ok (.lastore, 1) := by decide +kernel
theorem d_Model_order_83 : decode b_Model_order 83 = .ok (.aload_n 0, 1) := by decide +kernel
theorem d_Model_order_84 : decode b_Model_order 84 = .ok (.getfield 69, 3) := by decide +kernel
theorem d_Model_order_87 : decode b_Model_order 87 = .ok (.iload 4, 2) := by decide +kernel
theorem d_Model_order_89 : decode b_Model_order 89 = .ok (.lconst 0, 1) := by decide +kernel
theorem d_Model_order_90 : decode b_Model_order 90 = .ok (.lastore, 1) := by decide +kernel
theorem d_Model_order_91 : decode b_Model_order 91 = .ok (.aload_n 0, 1) := by decide +kernel
theorem d_Model_order_92 : decode b_Model_order 92 = .ok (.bipush 13, 2) := by decide +kernel
theorem d_Model_order_94 : decode b_Model_order 94 = .ok (.iload_n 2, 1) := by decide +kernel
theorem d_Model_order_95 : decode b_Model_order 95 = .ok (.iadd, 1) := by decide +kernel
theorem d_Model_order_96 : decode b_Model_order 96 = .ok (.invokevirtual 139, 3) := by decide +kernel
theorem d_Model_order_99 : decode b_Model_order 99 = .ok (.aload_n 0, 1) := by decide +kernel
theorem d_Model_order_100 : decode b_Model_order 100 = .ok (.getfield 75, 3) := by decide +kernel
theorem d_Model_order_103 : decode b_Model_order 103 = .ok (.iconst 1, 1) := by decide +kernel
theorem d_Model_order_104 : decode b_Model_order 104 = .ok (.iload_n 1, 1) := by decide +kernel
theorem d_Model_order_105 : decode b_Model_order 105 = .ok (.iadd, 1) := by decide +kernel
theorem d_Model_order_106 : decode b_Model_order 106 = .ok (.laload, 1) := by decide +kernel
theorem d_Model_order_107 : decode b_Model_order 107 = .ok (.lload 7, 2) := by decide +kernel
theorem d_Model_order_109 : decode b_Model_order 109 = .ok (.lneg, 1) := by decide +kernel
theorem d_Model_order_110 : decode b_Model_order 110 = .ok (.lcmp, 1) := by decide +kernel
theorem d_Model_order_111 : decode b_Model_order 111 = .ok (.ifCond .ne 30, 3) := by decide +kernel
theorem d_Model_order_114 : decode b_Model_order 114 = .ok (.lload 5, 2) := by decide +kernel
theorem d_Model_order_116 : decode b_Model_order 116 = .ok (.aload_n 0, 1) := by decide +kernel
theorem d_Model_order_117 : decode b_Model_order 117 = .ok (.bipush 13, 2) := by decide +kernel
theorem d_Model_order_119 : decode b_Model_order 119 = .ok (.iload_n 2, 1) := by decide +kernel
theorem d_Model_order_120 : decode b_Model_order 120 = .ok (.iadd, 1) := by decide +kernel
theorem d_Model_order_121 : decode b_Model_order 121 = .ok (.iconst 1, 1) := by decide +kernel
theorem d_Model_order_122 : decode b_Model_order 122 = .ok (.iload_n 1, 1) := by decide +kernel
theorem d_Model_order_123 : decode b_Model_order 123 = .ok (.iadd, 1) := by decide +kernel
theorem d_Model_order_124 : decode b_Model_order 124 = .ok (.invokevirtual 143, 3) := by decide +kernel
theorem d_Model_order_127 : decode b_Model_order 127 = .ok (.ladd, 1) := by decide +kernel
theorem d_Model_order_128 : decode b_Model_order 128 = .ok (.lstore 5, 2) := by decide +kernel
theorem d_Model_order_130 : decode b_Model_order 130 = .ok (.aload_n 0, 1) := by decide +kernel
theorem d_Model_order_131 : decode b_Model_order 131 = .ok (.bipush 13, 2) := by decide +kernel
theorem d_Model_order_133 : decode b_Model_order 133 = .ok (.iload_n 2, 1) := by decide +kernel
theorem d_Model_order_134 : decode b_Model_order 134 = .ok (.iadd, 1) := by decide +kernel
theorem d_Model_order_135 : decode b_Model_order 135 = .ok (.invokevirtual 139, 3) := by decide +kernel
theorem d_Model_order_138 : decode b_Model_order 138 = .ok (.goto (-39), 3) := by decide +kernel
theorem d_Model_order_141 : decode b_Model_order 141 = .ok (.aload_n 0, 1) := by decide +kernel
theorem d_Model_order_142 : decode b_Model_order 142 = .ok (.getfield 63, 3) := by decide +kernel
theorem d_Model_order_145 : decode b_Model_order 145 = .ok (.bipush 8, 2) := by decide +kernel
theorem d_Model_order_147 : decode b_Model_order 147 = .ok (.iload_n 1, 1) := by decide +kernel
theorem d_Model_order_148 : decode b_Model_order 148 = .ok (.imul, 1) := by decide +kernel
theorem d_Model_order_149 : decode b_Model_order 149 = .ok (.iload_n 2, 1) := by decide +kernel
theorem d_Model_order_150 : decode b_Model_order 150 = .ok (.iadd, 1) := by decide +kernel
theorem d_Model_order_151 : decode b_Model_order 151 = .ok (.lload 5, 2) := by decide +kernel
theorem d_Model_order_153 : decode b_Model_order 153 = .ok (.lastore, 1) := by decide +kernel
theorem d_Model_order_154 : decode b_Model_order 154 = .ok (.goto 15, 3) := by decide +kernel
theorem d_Model_order_157 : decode b_Model_order 157 = .ok (.aload_n 0, 1) := by decide +kernel
theorem d_Model_order_158 : decode b_Model_order 158 = .ok (.getfield 63, 3) := by decide +kernel
theorem d_Model_order_161 : decode b_Model_order 161 = .ok (.bipush 8, 2) := by decide +kernel
theorem d_Model_order_163 : decode b_Model_order 163 = .ok (.iload_n 1, 1) := by decide +kernel
theorem d_Model_order_164 : decode b_Model_order 164 = .ok (.imul, 1) := by decide +kernel
theorem d_Model_order_165 : decode b_Model_order 165 = .ok (.iload_n 2, 1) := by decide +kernel
theorem d_Model_order_166 : decode b_Model_order 166 = .ok (.iadd, 1) := by decide +kernel
theorem d_Model_order_167 : decode b_Model_order 167 = .ok (.lconst 0, 1) := by decide +kernel
theorem d_Model_order_168 : decode b_Model_order 168 = .ok (.lastore, 1) := by decide +kernel
theorem d_Model_order_169 : decode b_Model_order 169 = .ok (.iinc 2 1, 3) := by decide +kernel
theorem d_Model_order_172 : decode b_Model_order 172 = .ok (.goto (-155), 3) := by decide +kernel
theorem d_Model_order_175 : decode b_Model_order 175 = .ok (.iinc 1 1, 3) := by decide +kernel
theorem d_Model_order_178 : decode b_Model_order 178 = .ok (.goto (-176), 3) := by decide +kernel
theorem d_Model_order_181 : decode b_Model_order 181 = .ok (.return_, 1) := by decide +kernel
/-- what has been sent in all: from 0 to 33, s units; the arcs' two rests together stay -/
def hm_flow (R R' : Nat → Int64) (s : Int) : Prop := (∀ w, w < 34 → ho R' w = ho R w + (if w = 33 then s else 0) - (if w = 0 then s else 0)) ∧ ∀ a b, a < 34 → b < 34 → (R' (34 * a + b)).toInt + (R' (34 * b + a)).toInt = (R (34 * a + b)).toInt + (R (34 * b + a)).toInt
/-- the greatest flow of least cost: a potential, and no road left -/
def hm_Done (R C : Nat → Int64) (pi : Nat → Int) (r : Int64 × (Nat → Int64) × (Nat → Int64) × (Nat → Int32)) : Prop := hm_Net r.2.1 C pi ∧ hm_Good r.2.1 C pi 0 (r.2.2.1, r.2.2.2) ∧ 4000000000000000 ≤ r.2.2.1 33 ∧ hm_flow R r.2.1 r.1.toInt
theorem hm_all7 {R0 C : Nat → Int64} (hb0 : hm_rb R0) : ∀ (n : Nat) (sum : Int64) (R far : Nat → Int64) (bef : Nat → Int32) (pi : Nat → Int), (ho R 0).toNat < n → hm_Net R C pi → hm_Good R C pi 0 (far, bef) → hm_flow R0 R sum.toInt → ∃ pi', hm_Done R0 C pi' (f_Model_sendAll_h7 C f_Model_sendAll_x7 n sum R far bef) := by
  intro n
  induction n with
  | zero => exact fun sum R far bef pi h _ _ _ => absurd h (Nat.not_lt_zero _)
  | succ n ih =>
    intro sum R far bef pi hn hN hG hF
    rw [f_Model_sendAll_h7]
    unfold f_Model_sendAll_h7B
    by_cases c : 4000000000000000 ≤ far 33
    · rw [if_pos c]
      exact ⟨pi, hN, hG, c, hF⟩
    · rw [if_neg c, hh_bind, hh_bind]
      obtain ⟨pi2, hN2, hm0, hm1, dep, L, hJ, hp⟩ := hm_step hN hG c
      have hh := hJ.1 0 (by decide)
      rw [hp, if_neg (by decide), if_pos rfl] at hh
      have hh1 := hm_ho hN2.2.2.1 (show 0 < 34 by decide)
      have hh2 := hm_ho hN.2.2.1 (show 0 < 34 by decide)
      have hh0 := hm_ho hb0 (show 0 < 34 by decide)
      have hF0 := hF.1 0 (by decide)
      rw [if_neg (by decide), if_pos rfl] at hF0
      refine ih _ _ _ _ pi2 (by omega) hN2 (hm_measure hN2.1 hN2.2.1 hN2.pb (by decide) far bef) ⟨fun w hw => ?_, fun a b ha hb => ?_⟩
      · have h1 := hJ.1 w hw
        have h2 := hF.1 w hw
        rw [hp] at h1
        rw [h1, h2, h64_add (by omega) (by omega)]
        by_cases e : w = 33
        · rw [if_pos e, if_pos e, if_pos e]
          by_cases e0 : w = 0
          · omega
          · rw [if_neg e0, if_neg e0, if_neg e0]; omega
        · rw [if_neg e, if_neg e, if_neg e]
          by_cases e0 : w = 0
          · rw [if_pos e0, if_pos e0, if_pos e0]; omega
          · rw [if_neg e0, if_neg e0, if_neg e0]; omega
      · have h1 := hJ.2.1 a b ha hb
        have h2 := hF.2 a b ha hb
        omega
theorem f_Model_sendAll_done {R C : Nat → Int64} {pi : Nat → Int} (far : Nat → Int64) (bef : Nat → Int32) (hN : hm_Net R C pi) : ∃ pi', hm_Done R C pi' (f_Model_sendAll R C far bef) := by
  unfold f_Model_sendAll
  rw [hh_bind]
  have hh := hm_ho hN.2.2.1 (show 0 < 34 by decide)
  refine hm_all7 hN.2.2.1 _ 0 R _ _ pi (by omega) hN (hm_measure hN.1 hN.2.1 hN.pb (by decide) far bef) ⟨fun w hw => ?_, fun a b _ _ => rfl⟩
  rw [h64_0]
  by_cases e : w = 33
  · rw [if_pos e]
    by_cases e0 : w = 0
    · omega
    · rw [if_neg e0]; omega
  · rw [if_neg e]
    by_cases e0 : w = 0
    · rw [if_pos e0]; omega
    · rw [if_neg e0]; omega
/-! ===== order(): exchanges that cost nothing ===== -/
def hm_Ord (R C : Nat → Int64) (pi : Nat → Int) : Prop := hm_pot R C pi ∧ hm_cb C ∧ hm_rb R ∧ hm_anti C ∧ hm_pb pi ∧ ∀ f, f < 8 → ho R (13 + f) ≤ 100000000000
theorem hm_Ord.pb {R C : Nat → Int64} {pi : Nat → Int} (h : hm_Ord R C pi) : hm_pb pi := h.2.2.2.2.1
/-- a road whose cost is just the difference of the potentials may be sent along: the potential stays -/
theorem hm_swap {R C : Nat → Int64} {pi : Nat → Int} {far : Nat → Int64} {bef : Nat → Int32} {src to : Nat} (hN : hm_Ord R C pi) (hsrc : src < 34) (hto : to < 34) (hG : hm_Good R C pi src (far, bef)) (hlt : (far to).toInt < 4000000000000000) (hpp : (far to).toInt - pi to ≤ - pi src) (hne : src ≠ to) (h13 : ∀ f, f < 8 → to ≠ 13 + f) :
    hm_Ord (f_Model_send R bef src to).2 C pi ∧ 0 < (f_Model_send R bef src to).1.toInt ∧ (f_Model_send R bef src to).1.toInt ≤ 1000000000000 ∧ ∃ dep L, hm_J62 R bef dep to L (f_Model_send R bef src to).1.toInt (f_Model_send R bef src to).2 ∧ hm_p bef to L = src := by
  obtain ⟨hpot, hcb, hrb, hanti, hpb, hfl⟩ := id hN
  have hI : hm_Iv R C pi src far bef := hG.1
  obtain ⟨dep, htree⟩ : ∃ dep, hm_tree R C src far bef dep := hm_Good.tree hcb hpb hsrc hG
  obtain ⟨L, hL, hroad, hti⟩ := htree.road (to := to) ⟨hto, hlt⟩
  have hS := hm_send hroad hrb hL
  have h0 := hI.1
  have hstep : ∀ j, j < L → (far (hm_p bef to (j + 1))).toInt - pi (hm_p bef to (j + 1)) ≤ (far (hm_p bef to j)).toInt - pi (hm_p bef to j) := by
    intro j hj
    have b := (hti j hj).2
    have c := hroad.2.2 j hj
    have d := hpot _ _ c.2.1 (hm_road_lt hroad j (by omega)) c.2.2.2.2
    omega
  have hdown : ∀ j, j ≤ L → (far (hm_p bef to j)).toInt - pi (hm_p bef to j) ≤ - pi src := by
    intro j
    induction j with
    | zero => exact fun _ => hpp
    | succ j ih =>
      intro hj
      have a := ih (by omega)
      have b := hstep j (by omega)
      omega
  have hup : ∀ k, k ≤ L → - pi src ≤ (far (hm_p bef to (L - k))).toInt - pi (hm_p bef to (L - k)) := by
    intro k
    induction k with
    | zero =>
      intro _
      rw [Nat.sub_zero, hroad.1]
      omega
    | succ k ih =>
      intro hk
      have a := ih (by omega)
      have b := hstep (L - (k + 1)) (by omega)
      rw [show L - (k + 1) + 1 = L - k by omega] at b
      omega
  have heq : ∀ j, j ≤ L → (far (hm_p bef to j)).toInt - pi (hm_p bef to j) = - pi src := by
    intro j hj
    have a := hdown j hj
    have b := hup (L - j) (by omega)
    rw [show L - (L - j) = j by omega] at b
    omega
  refine ⟨⟨?_, hcb, hm_sent_rb hrb hS.2.2, hanti, hpb, ?_⟩, hS.1, hS.2.1, dep, L, hS.2.2, hroad.1⟩
  · intro a b ha hb hpos
    rcases hS.2.2.2.2.2.1 a b ha hb hpos with hold | ⟨j, hj, ea, eb⟩
    · exact hpot a b ha hb hold
    · have hta := (hti j hj).2
      have h1 := heq j (by omega)
      have h2 := heq (j + 1) (by omega)
      have han := hanti a b ha hb
      rw [← ea, ← eb] at hta
      rw [← ea] at h1
      rw [← eb] at h2
      omega
  · intro f hf
    have h1 := hS.2.2.1 (13 + f) (by omega)
    rw [hroad.1, if_neg (fun e => h13 f hf e.symm)] at h1
    have h2 := hfl f hf
    have h3 := hS.1
    by_cases e : 13 + f = src
    · rw [if_pos e] at h1; omega
    · rw [if_neg e] at h1; omega
/-- an arc is closed, both ways -/
theorem hm_close {R C : Nat → Int64} {pi : Nat → Int} (hN : hm_Ord R C pi) {u x : Nat} (hu : u < 34) (hx : x < 34) : hm_Ord (vp_updL (vp_updL R (34 * u + x) 0) (34 * x + u) 0) C pi := by
  obtain ⟨hpot, hcb, hrb, hanti, hpb, hfl⟩ := hN
  have hle : ∀ a b, a < 34 → b < 34 → 0 ≤ ((vp_updL (vp_updL R (34 * u + x) 0) (34 * x + u) 0) (34 * a + b)).toInt ∧ ((vp_updL (vp_updL R (34 * u + x) 0) (34 * x + u) 0) (34 * a + b)).toInt ≤ (R (34 * a + b)).toInt := by
    intro a b ha hb
    have h1 := hrb a b ha hb
    by_cases c1 : 34 * a + b = 34 * x + u
    · rw [c1, hp_updL, h64_0, ← c1]; omega
    · rw [hp_updLn _ _ c1]
      by_cases c2 : 34 * a + b = 34 * u + x
      · rw [c2, hp_updL, h64_0, ← c2]; omega
      · rw [hp_updLn _ _ c2]; omega
  refine ⟨fun a b ha hb hpos => hpot a b ha hb (by have := hle a b ha hb; omega), hcb, fun a b ha hb => ?_, hanti, hpb, fun f hf => ?_⟩
  · have h1 := hle a b ha hb
    have h2 := hle b a hb ha
    have h3 := hrb a b ha hb
    exact ⟨h1.1, by omega⟩
  · have h1 : ho (vp_updL (vp_updL R (34 * u + x) 0) (34 * x + u) 0) (13 + f) ≤ ho R (13 + f) := hs_le (fun b hb => (hle (13 + f) b (by omega) hb).2)
    have h2 := hfl f hf
    omega
theorem hs_elem {f : Nat → Int} {k : Nat} : ∀ {n : Nat}, (∀ i, i < n → 0 ≤ f i) → k < n → f k ≤ hs f n
  | 0, _, h => absurd h (Nat.not_lt_zero _)
  | n + 1, h, hk => by
    show f k ≤ hs f n + f n
    have h2 := h n (Nat.lt_succ_self n)
    by_cases e : k = n
    · subst e
      have h1 : hs (fun _ => (0 : Int)) k ≤ hs f k := hs_le (fun i hi => h i (Nat.lt_succ_of_lt hi))
      rw [hs_zero (fun _ _ => rfl)] at h1
      omega
    · have h1 := hs_elem (f := f) (k := k) (n := n) (fun i hi => h i (Nat.lt_succ_of_lt hi)) (by omega)
      omega
theorem h64_neg {x : Int64} (h : -9000000000000000000 ≤ x.toInt) : (-x).toInt = - x.toInt := by
  have h2 := Int64.toInt_lt x
  rw [Int64.toInt_neg]
  exact Int.bmod_eq_of_le (by omega) (by omega)
/-- from the cell (s, f) on: what serves has its whole rest still, both ways together -/
def hm_Cells (n F VM1 : Nat) (NM0 NM1 NM2 : Nat → Nat) (IM0 : Nat → Int32) (R : Nat → Int64) (s f : Nat) : Prop := ∀ s' f', s' < 12 → f' < 8 → s' < n → f' < F → (s < s' ∨ (s = s' ∧ f ≤ f')) → ¬ f_Model_serves VM1 NM0 NM1 NM2 IM0 s' f' = 0 → (R (34 * (1 + s') + (13 + f'))).toInt + (R (34 * (13 + f') + (1 + s'))).toInt = 1000000000000
theorem hm_Cells.next {n F VM1 : Nat} {NM0 NM1 NM2 : Nat → Nat} {IM0 : Nat → Int32} {R : Nat → Int64} {s f : Nat} (h : hm_Cells n F VM1 NM0 NM1 NM2 IM0 R s f) : hm_Cells n F VM1 NM0 NM1 NM2 IM0 R s (f + 1) := fun s' f' a b an bn c d => h s' f' a b an bn (by omega) d
theorem hm_Cells.row {n F VM1 : Nat} {NM0 NM1 NM2 : Nat → Nat} {IM0 : Nat → Int32} {R : Nat → Int64} {s f : Nat} (h : hm_Cells n F VM1 NM0 NM1 NM2 IM0 R s f) : hm_Cells n F VM1 NM0 NM1 NM2 IM0 R (s + 1) 0 := fun s' f' a b an bn c d => h s' f' a b an bn (by omega) d
theorem hm_Cells.sent {n F VM1 : Nat} {NM0 NM1 NM2 : Nat → Nat} {IM0 : Nat → Int32} {R R' : Nat → Int64} {s f : Nat} (h : hm_Cells n F VM1 NM0 NM1 NM2 IM0 R s f) (hp : ∀ a b, a < 34 → b < 34 → (R' (34 * a + b)).toInt + (R' (34 * b + a)).toInt = (R (34 * a + b)).toInt + (R (34 * b + a)).toInt) : hm_Cells n F VM1 NM0 NM1 NM2 IM0 R' s f := fun s' f' a b an bn c d => (hp _ _ (by omega) (by omega)).trans (h s' f' a b an bn c d)
theorem hm_Cells.closed {n F VM1 : Nat} {NM0 NM1 NM2 : Nat → Nat} {IM0 : Nat → Int32} {R : Nat → Int64} {s f : Nat} (hs12 : s < 12) (hf8 : f < 8) (h : hm_Cells n F VM1 NM0 NM1 NM2 IM0 R s f) : hm_Cells n F VM1 NM0 NM1 NM2 IM0 (vp_updL (vp_updL R (34 * (1 + s) + 13 + f) 0) (34 * (13 + f) + 1 + s) 0) s (f + 1) := by
  intro s' f' a b an bn c d
  rw [hp_updLn _ _ (by omega), hp_updLn _ _ (by omega), hp_updLn _ _ (by omega), hp_updLn _ _ (by omega)]
  exact h s' f' a b an bn (by omega) d
theorem hm_close' {R C : Nat → Int64} {pi : Nat → Int} (hN : hm_Ord R C pi) {s f : Nat} (hs12 : s < 12) (hf8 : f < 8) : hm_Ord (vp_updL (vp_updL R (34 * (1 + s) + 13 + f) 0) (34 * (13 + f) + 1 + s) 0) C pi := by
  have h := hm_close hN (u := 1 + s) (x := 13 + f) (by omega) (by omega)
  rw [show 34 * (1 + s) + (13 + f) = 34 * (1 + s) + 13 + f by omega, show 34 * (13 + f) + (1 + s) = 34 * (13 + f) + 1 + s by omega] at h
  exact h
/-- a cell that serves: its arc has a rest, so the potential's step is no more than its cost -/
theorem hm_cell_pot {R C : Nat → Int64} {pi : Nat → Int} (hN : hm_Ord R C pi) {n F VM1 : Nat} {NM0 NM1 NM2 : Nat → Nat} {IM0 : Nat → Int32} {s f : Nat} (hs12 : s < 12) (hf8 : f < 8) (hsn : s < n) (hfF : f < F) (hc : hm_Cells n F VM1 NM0 NM1 NM2 IM0 R s f) (hse : ¬ f_Model_serves VM1 NM0 NM1 NM2 IM0 s f = 0) : pi (13 + f) ≤ pi (1 + s) + (C (34 * (1 + s) + 13 + f)).toInt := by
  have h1 := hc s f hs12 hf8 hsn hfF (by omega) hse
  have h2 : (R (34 * (13 + f) + (1 + s))).toInt ≤ ho R (13 + f) := hs_elem (f := fun b => (R (34 * (13 + f) + b)).toInt) (fun b hb => (hN.2.2.1 (13 + f) b (by omega) hb).1) (show 1 + s < 34 by omega)
  have h3 := hN.2.2.2.2.2 f hf8
  have h4 := hN.1 (1 + s) (13 + f) (by omega) (by omega) (by omega)
  rw [show 34 * (1 + s) + (13 + f) = 34 * (1 + s) + 13 + f by omega] at h4
  exact h4
/-- a road that just takes back the cell's cost -/
theorem hm_back_road {R C : Nat → Int64} {pi : Nat → Int} {far : Nat → Int64} (hN : hm_Ord R C pi) {s f : Nat} (hs12 : s < 12) (hf8 : f < 8) (hpp : pi (13 + f) ≤ pi (1 + s) + (C (34 * (1 + s) + 13 + f)).toInt) (hc : far (1 + s) = -(C (34 * (1 + s) + 13 + f))) : (far (1 + s)).toInt < 4000000000000000 ∧ (far (1 + s)).toInt - pi (1 + s) ≤ - pi (13 + f) := by
  have hb := hN.2.1 (34 * (1 + s) + 13 + f) (by omega)
  rw [hc, h64_neg (by omega)]
  omega
def f_Model_order_h99B (x1_2 : Nat) (LM14 : Nat → Int64) (x2_17 : Nat) (k_99 : (Int64) → (Nat → Int64) → (Nat → Int64) → (Nat → Int32) → (Nat → Int64) × (Nat → Int64) × (Nat → Int64) × (Nat → Int32)) (rec_99 : (Int64) → (Nat → Int64) → (Nat → Int64) → (Nat → Int32) → (Nat → Int64) × (Nat → Int64) × (Nat → Int64) × (Nat → Int32)) (x5_99 : Int64) (LM13_99 : Nat → Int64) (LM15_99 : Nat → Int64) (IM3_99 : Nat → Int32) : (Nat → Int64) × (Nat → Int64) × (Nat → Int64) × (Nat → Int32) :=
  if (LM15_99 (1 + x1_2)) = (-(LM14 (((34 * (1 + x1_2)) + 13) + x2_17))) then (hh_bind (f_Model_send LM13_99 IM3_99 (13 + x2_17) (1 + x1_2)) (fun y124 => hh_bind (f_Model_measure y124.2 LM14 LM15_99 IM3_99 (13 + x2_17)) (fun y135 => rec_99 (x5_99 + y124.1) y124.2 y135.1 y135.2))) else (k_99 x5_99 LM13_99 LM15_99 IM3_99)
def f_Model_order_h99 (x1_2 : Nat) (LM14 : Nat → Int64) (x2_17 : Nat) (k_99 : (Int64) → (Nat → Int64) → (Nat → Int64) → (Nat → Int32) → (Nat → Int64) × (Nat → Int64) × (Nat → Int64) × (Nat → Int32)) : Nat → (Int64) → (Nat → Int64) → (Nat → Int64) → (Nat → Int32) → (Nat → Int64) × (Nat → Int64) × (Nat → Int64) × (Nat → Int32)
  | 0, x5_99, LM13_99, LM15_99, IM3_99 => k_99 x5_99 LM13_99 LM15_99 IM3_99
  | n + 1, x5_99, LM13_99, LM15_99, IM3_99 => f_Model_order_h99B x1_2 LM14 x2_17 k_99 (fun x5_99 LM13_99 LM15_99 IM3_99 => f_Model_order_h99 x1_2 LM14 x2_17 k_99 n x5_99 LM13_99 LM15_99 IM3_99) x5_99 LM13_99 LM15_99 IM3_99
def f_Model_order_x99 (rec_17 : (Nat) → (Nat → Int64) → (Nat → Int64) → (Nat → Int64) → (Nat → Int32) → (Nat → Int64) × (Nat → Int64) × (Nat → Int64) × (Nat → Int32)) (x2_17 : Nat) (LM12_17 : Nat → Int64) (x1_2 : Nat) (x5_99 : Int64) (LM13_99 : Nat → Int64) (LM15_99 : Nat → Int64) (IM3_99 : Nat → Int32) : (Nat → Int64) × (Nat → Int64) × (Nat → Int64) × (Nat → Int32) :=
  rec_17 (x2_17 + 1) (vp_updL LM12_17 ((8 * x1_2) + x2_17) x5_99) LM13_99 LM15_99 IM3_99
def f_Model_order_h17B (VM2 : Nat) (VM1 : Nat) (NM0 : Nat → Nat) (NM1 : Nat → Nat) (NM2 : Nat → Nat) (IM0 : Nat → Int32) (x1_2 : Nat) (LM14 : Nat → Int64) (k_17 : (Nat) → (Nat → Int64) → (Nat → Int64) → (Nat → Int64) → (Nat → Int32) → (Nat → Int64) × (Nat → Int64) × (Nat → Int64) × (Nat → Int32)) (rec_17 : (Nat) → (Nat → Int64) → (Nat → Int64) → (Nat → Int64) → (Nat → Int32) → (Nat → Int64) × (Nat → Int64) × (Nat → Int64) × (Nat → Int32)) (x2_17 : Nat) (LM12_17 : Nat → Int64) (LM13_17 : Nat → Int64) (LM15_17 : Nat → Int64) (IM3_17 : Nat → Int32) : (Nat → Int64) × (Nat → Int64) × (Nat → Int64) × (Nat → Int32) :=
  if VM2 ≤ x2_17 then (k_17 x2_17 LM12_17 LM13_17 LM15_17 IM3_17) else (hh_bind (f_Model_serves VM1 NM0 NM1 NM2 IM0 x1_2 x2_17) (fun y53 => if y53 = 0 then (rec_17 (x2_17 + 1) (vp_updL LM12_17 ((8 * x1_2) + x2_17) 0) LM13_17 LM15_17 IM3_17) else (hh_bind (f_Model_measure (vp_updL (vp_updL LM13_17 (((34 * (1 + x1_2)) + 13) + x2_17) 0) (((34 * (13 + x2_17)) + 1) + x1_2) 0) LM14 LM15_17 IM3_17 (13 + x2_17)) (fun y96 => f_Model_order_h99 x1_2 LM14 x2_17 (f_Model_order_x99 rec_17 x2_17 LM12_17 x1_2) 100000000000000000000 (LM13_17 (((34 * (13 + x2_17)) + 1) + x1_2)) (vp_updL (vp_updL LM13_17 (((34 * (1 + x1_2)) + 13) + x2_17) 0) (((34 * (13 + x2_17)) + 1) + x1_2) 0) y96.1 y96.2))))
def f_Model_order_h17 (VM2 : Nat) (VM1 : Nat) (NM0 : Nat → Nat) (NM1 : Nat → Nat) (NM2 : Nat → Nat) (IM0 : Nat → Int32) (x1_2 : Nat) (LM14 : Nat → Int64) (k_17 : (Nat) → (Nat → Int64) → (Nat → Int64) → (Nat → Int64) → (Nat → Int32) → (Nat → Int64) × (Nat → Int64) × (Nat → Int64) × (Nat → Int32)) : Nat → (Nat) → (Nat → Int64) → (Nat → Int64) → (Nat → Int64) → (Nat → Int32) → (Nat → Int64) × (Nat → Int64) × (Nat → Int64) × (Nat → Int32)
  | 0, x2_17, LM12_17, LM13_17, LM15_17, IM3_17 => k_17 x2_17 LM12_17 LM13_17 LM15_17 IM3_17
  | n + 1, x2_17, LM12_17, LM13_17, LM15_17, IM3_17 => f_Model_order_h17B VM2 VM1 NM0 NM1 NM2 IM0 x1_2 LM14 k_17 (fun x2_17 LM12_17 LM13_17 LM15_17 IM3_17 => f_Model_order_h17 VM2 VM1 NM0 NM1 NM2 IM0 x1_2 LM14 k_17 n x2_17 LM12_17 LM13_17 LM15_17 IM3_17) x2_17 LM12_17 LM13_17 LM15_17 IM3_17
def f_Model_order_x17 (rec_2 : (Nat) → (Nat → Int64) → (Nat → Int64) → (Nat → Int64) → (Nat → Int32) → (Nat → Int64) × (Nat → Int64) × (Nat → Int64) × (Nat → Int32)) (x1_2 : Nat) (x2_17 : Nat) (LM12_17 : Nat → Int64) (LM13_17 : Nat → Int64) (LM15_17 : Nat → Int64) (IM3_17 : Nat → Int32) : (Nat → Int64) × (Nat → Int64) × (Nat → Int64) × (Nat → Int32) :=
  rec_2 (x1_2 + 1) LM12_17 LM13_17 LM15_17 IM3_17
def f_Model_order_h2B (VM1 : Nat) (VM4 : Nat) (VM2 : Nat) (NM0 : Nat → Nat) (NM1 : Nat → Nat) (NM2 : Nat → Nat) (IM0 : Nat → Int32) (LM14 : Nat → Int64) (k_2 : (Nat) → (Nat → Int64) → (Nat → Int64) → (Nat → Int64) → (Nat → Int32) → (Nat → Int64) × (Nat → Int64) × (Nat → Int64) × (Nat → Int32)) (rec_2 : (Nat) → (Nat → Int64) → (Nat → Int64) → (Nat → Int64) → (Nat → Int32) → (Nat → Int64) × (Nat → Int64) × (Nat → Int64) × (Nat → Int32)) (x1_2 : Nat) (LM12_2 : Nat → Int64) (LM13_2 : Nat → Int64) (LM15_2 : Nat → Int64) (IM3_2 : Nat → Int32) : (Nat → Int64) × (Nat → Int64) × (Nat → Int64) × (Nat → Int32) :=
  if (VM1 + VM4) ≤ x1_2 then (k_2 x1_2 LM12_2 LM13_2 LM15_2 IM3_2) else (f_Model_order_h17 VM2 VM1 NM0 NM1 NM2 IM0 x1_2 LM14 (f_Model_order_x17 rec_2 x1_2) 9 0 LM12_2 LM13_2 LM15_2 IM3_2)
def f_Model_order_h2 (VM1 : Nat) (VM4 : Nat) (VM2 : Nat) (NM0 : Nat → Nat) (NM1 : Nat → Nat) (NM2 : Nat → Nat) (IM0 : Nat → Int32) (LM14 : Nat → Int64) (k_2 : (Nat) → (Nat → Int64) → (Nat → Int64) → (Nat → Int64) → (Nat → Int32) → (Nat → Int64) × (Nat → Int64) × (Nat → Int64) × (Nat → Int32)) : Nat → (Nat) → (Nat → Int64) → (Nat → Int64) → (Nat → Int64) → (Nat → Int32) → (Nat → Int64) × (Nat → Int64) × (Nat → Int64) × (Nat → Int32)
  | 0, x1_2, LM12_2, LM13_2, LM15_2, IM3_2 => k_2 x1_2 LM12_2 LM13_2 LM15_2 IM3_2
  | n + 1, x1_2, LM12_2, LM13_2, LM15_2, IM3_2 => f_Model_order_h2B VM1 VM4 VM2 NM0 NM1 NM2 IM0 LM14 k_2 (fun x1_2 LM12_2 LM13_2 LM15_2 IM3_2 => f_Model_order_h2 VM1 VM4 VM2 NM0 NM1 NM2 IM0 LM14 k_2 n x1_2 LM12_2 LM13_2 LM15_2 IM3_2) x1_2 LM12_2 LM13_2 LM15_2 IM3_2
def f_Model_order_x2  (x1_2 : Nat) (LM12_2 : Nat → Int64) (LM13_2 : Nat → Int64) (LM15_2 : Nat → Int64) (IM3_2 : Nat → Int32) : (Nat → Int64) × (Nat → Int64) × (Nat → Int64) × (Nat → Int32) :=
  (LM12_2, LM13_2, LM15_2, IM3_2)
def f_Model_order (VM1 : Nat) (VM2 : Nat) (VM4 : Nat) (NM0 : Nat → Nat) (NM1 : Nat → Nat) (NM2 : Nat → Nat) (LM12 : Nat → Int64) (LM13 : Nat → Int64) (LM14 : Nat → Int64) (LM15 : Nat → Int64) (IM0 : Nat → Int32) (IM3 : Nat → Int32) : (Nat → Int64) × (Nat → Int64) × (Nat → Int64) × (Nat → Int32) :=
  f_Model_order_h2 VM1 VM4 VM2 NM0 NM1 NM2 IM0 LM14 f_Model_order_x2 13 0 LM12 LM13 LM15 IM3
set_option maxHeartbeats 4000000 in
set_option maxRecDepth 100000 in
theorem c_Model_order (l : Launch) (dC : Nat → ClassId) (dI : Nat → Nat → Nat) (cI cJ cZ : ClassId) (sz : Nat) (aM : Nat → Nat) (VM0 : Nat) (VM1 : Nat) (VM2 : Nat) (VM3 : Nat) (VM4 : Nat) (VM5 : Nat) (WM0 : Int64) (NM0 : Nat → Nat) (NM1 : Nat → Nat) (NM2 : Nat → Nat) (LM0 : Nat → Int64) (LM1 : Nat → Int64) (LM2 : Nat → Int64) (LM3 : Nat → Int64) (LM4 : Nat → Int64) (LM5 : Nat → Int64) (LM6 : Nat → Int64) (LM7 : Nat → Int64) (LM8 : Nat → Int64) (LM9 : Nat → Int64) (LM10 : Nat → Int64) (LM11 : Nat → Int64) (LM12 : Nat → Int64) (LM13 : Nat → Int64) (LM14 : Nat → Int64) (LM15 : Nat → Int64) (IM0 : Nat → Int32) (IM1 : Nat → Int32) (IM2 : Nat → Int32) (IM3 : Nat → Int32) (m1 : VM1 ≤ 8) (m2 : VM2 ≤ 8) (m4 : VM4 ≤ 4) (mk4 : ∀ i, NM0 i < 4) (mcw : ∀ i, NM1 i < 12) (mfw : ∀ i, NM2 i < 12) (pi : Nat → Int) (hord : hm_Ord LM13 LM14 pi) (hcl : hm_Cells (VM1 + VM4) VM2 VM1 NM0 NM1 NM2 IM0 LM13 0 0) : hh_Cv l y_Model_order u_Model_order ({ frames := 1, cells := 0, slots := 0, locals := 27 }) (dC, dI) vwCl [(cI, .int), (cJ, .long), (cZ, .boolean)] (w_M cI cJ cZ aM VM0 VM1 VM2 VM3 VM4 VM5 WM0 NM0 NM1 NM2 LM0 LM1 LM2 LM3 LM4 LM5 LM6 LM7 LM8 LM9 LM10 LM11 LM12 LM13 LM14 LM15 IM0 IM1 IM2 IM3) sz [.ref (aM 0)] (w_M cI cJ cZ aM VM0 VM1 VM2 VM3 VM4 VM5 WM0 NM0 NM1 NM2 LM0 LM1 LM2 LM3 LM4 LM5 LM6 LM7 LM8 LM9 LM10 LM11 ((f_Model_order VM1 VM2 VM4 NM0 NM1 NM2 LM12 LM13 LM14 LM15 IM0 IM3).1) ((f_Model_order VM1 VM2 VM4 NM0 NM1 NM2 LM12 LM13 LM14 LM15 IM0 IM3).2.1) LM14 ((f_Model_order VM1 VM2 VM4 NM0 NM1 NM2 LM12 LM13 LM14 LM15 IM0 IM3).2.2.1) IM0 IM1 IM2 ((f_Model_order VM1 VM2 VM4 NM0 NM1 NM2 LM12 LM13 LM14 LM15 IM0 IM3).2.2.2)) 0 0 := by
  unfold hh_Cv
  refine Met.ofW (cc := b_Model_order) (maxL := 9) (ret := none) (by decide) rfl ?_
  intro p e s m args below meth c s₁ B hml hv
  obtain ⟨rfl, hsz, hP, hK, hD0⟩ := hv
  have hx := B.exec
  have hb := B.bytes
  have hr := B.returns
  have hts := atoms_spec (ws := u_Model_order) B.pre
  have hG : ∀ w ∈ wG, w.before ([.ref (aM 0)]).toArray s = true := fun w h => hts w (List.mem_cons_of_mem _ h)
  have hown : s.vm.findClass R_Model = some m.cls := findClass_of_methodNamed B.named
  have hlocks := B.notSynchronized
  subst hsz
  have hD := hD0.self (sz := s.heap.size)
  generalize hAe : va_A (w_M cI cJ cZ aM VM0 VM1 VM2 VM3 VM4 VM5 WM0 NM0 NM1 NM2 LM0 LM1 LM2 LM3 LM4 LM5 LM6 LM7 LM8 LM9 LM10 LM11 LM12 LM13 LM14 LM15 IM0 IM1 IM2 IM3) s.heap.size = A at hD ⊢
  have hA : ∀ q : Nat, s.heap.size ≤ q → A q := fun q h => by rw [← hAe]; exact Or.inr h
  have hS : va_S A s.heap s.heap [] := va_S.rf
  have hl := lv_entry ([.ref (aM 0)]) (n := 9) (Nat.le_of_ble_eq_true rfl)
  rw [lg_entry_eq]
  generalize (lg_sl ([.ref (aM 0)]) ++ List.replicate (9 - (lg_sl ([.ref (aM 0)])).length) Slot.unset).toArray = ls at hl ⊢
  have hl : lv_has ls 9 [(0, .ref (aM 0))] := hl
  generalize hR : f_Model_order VM1 VM2 VM4 NM0 NM1 NM2 LM12 LM13 LM14 LM15 IM0 IM3 = r0
  obtain ⟨H, locs, hHe, hle⟩ : ∃ (H : Heap) (locs : List Loc), s.heap = H ∧ [] = locs := ⟨_, _, rfl, rfl⟩
  have hP : va_P (dC, dI) vwCl (w_M cI cJ cZ aM VM0 VM1 VM2 VM3 VM4 VM5 WM0 NM0 NM1 NM2 LM0 LM1 LM2 LM3 LM4 LM5 LM6 LM7 LM8 LM9 LM10 LM11 LM12 LM13 LM14 LM15 IM0 IM1 IM2 IM3) H := by rw [← hHe]; exact hP
  have hS : va_S A s.heap H locs := by rw [← hHe, ← hle]; exact hS
  refine hw_start hHe hle ?_
  unfold f_Model_order at hR
  refine lv_iconst (v := nI 0) hx hb d_Model_order_0 (by decide) ?_
  refine lv_istore_n (lv' := [(1, .int (nI 0)), (0, .ref (aM 0))]) hx hb d_Model_order_1 rfl hl (by decide) rfl (fun ls hl => ?_)
  obtain ⟨k_2, hk_2, hR⟩ : ∃ k, f_Model_order_x2 = k ∧ f_Model_order_h2 VM1 VM4 VM2 NM0 NM1 NM2 IM0 LM14 k 13 0 LM12 LM13 LM15 IM3 = r0 := ⟨_, rfl, hR⟩
  have X_2 : ∀ (x1_2 : Nat) (LM12_2 : Nat → Int64) (LM13_2 : Nat → Int64) (LM15_2 : Nat → Int64) (IM3_2 : Nat → Int32) (hi : x1_2 ≤ (VM1 + VM4)) (hord : hm_Ord LM13_2 LM14 pi) (hcl : hm_Cells (VM1 + VM4) VM2 VM1 NM0 NM1 NM2 IM0 LM13_2 x1_2 0) (H : Heap) (locs : List Loc) (hP : va_P (dC, dI) vwCl (w_M cI cJ cZ aM VM0 VM1 VM2 VM3 VM4 VM5 WM0 NM0 NM1 NM2 LM0 LM1 LM2 LM3 LM4 LM5 LM6 LM7 LM8 LM9 LM10 LM11 LM12_2 LM13_2 LM14 LM15_2 IM0 IM1 IM2 IM3_2) H) (hD : va_D A (w_M cI cJ cZ aM VM0 VM1 VM2 VM3 VM4 VM5 WM0 NM0 NM1 NM2 LM0 LM1 LM2 LM3 LM4 LM5 LM6 LM7 LM8 LM9 LM10 LM11 LM12_2 LM13_2 LM14 LM15_2 IM0 IM1 IM2 IM3_2)) (hS : va_S A s.heap H locs) (ls : Array Slot) (hl : lv_has ls 9 [(0, .ref (aM 0)), (1, .int (nI x1_2))]) (hR : k_2 x1_2 LM12_2 LM13_2 LM15_2 IM3_2 = r0), W p l e (headSpec u_Model_order ({ frames := 1, cells := 0, slots := 0, locals := 27 })).room s m ([.ref (aM 0)]).toArray below meth c H locs 0 0 (hh_Zv below (dC, dI) vwCl [(cI, .int), (cJ, .long), (cZ, .boolean)] A (w_M cI cJ cZ aM VM0 VM1 VM2 VM3 VM4 VM5 WM0 NM0 NM1 NM2 LM0 LM1 LM2 LM3 LM4 LM5 LM6 LM7 LM8 LM9 LM10 LM11 r0.1 r0.2.1 LM14 r0.2.2.1 IM0 IM1 IM2 r0.2.2.2) ([.ref (aM 0)]).toArray s) (F0 m 181 ls []) := by
    intro x1_2 LM12_2 LM13_2 LM15_2 IM3_2 hi hord hcl H locs hP hD hS ls hl hR
    rw [← hk_2] at hR
    unfold f_Model_order_x2 at hR
    subst hR
    exact W.vret hx hb hr (fun t ht hW => ⟨⟨(), rfl, trivial, by rw [ht]; exact hP, va_K.moved hW.alike hK, hD⟩, hS.F ht⟩) hS.2.2 d_Model_order_181
  have L_2 : ∀ (n : Nat) (x1_2 : Nat) (LM12_2 : Nat → Int64) (LM13_2 : Nat → Int64) (LM15_2 : Nat → Int64) (IM3_2 : Nat → Int32) (hi : x1_2 ≤ (VM1 + VM4)) (hord : hm_Ord LM13_2 LM14 pi) (hcl : hm_Cells (VM1 + VM4) VM2 VM1 NM0 NM1 NM2 IM0 LM13_2 x1_2 0) (hfu : (VM1 + VM4) - x1_2 < n) (H : Heap) (locs : List Loc) (hP : va_P (dC, dI) vwCl (w_M cI cJ cZ aM VM0 VM1 VM2 VM3 VM4 VM5 WM0 NM0 NM1 NM2 LM0 LM1 LM2 LM3 LM4 LM5 LM6 LM7 LM8 LM9 LM10 LM11 LM12_2 LM13_2 LM14 LM15_2 IM0 IM1 IM2 IM3_2) H) (hD : va_D A (w_M cI cJ cZ aM VM0 VM1 VM2 VM3 VM4 VM5 WM0 NM0 NM1 NM2 LM0 LM1 LM2 LM3 LM4 LM5 LM6 LM7 LM8 LM9 LM10 LM11 LM12_2 LM13_2 LM14 LM15_2 IM0 IM1 IM2 IM3_2)) (hS : va_S A s.heap H locs) (ls : Array Slot) (hl : lv_has ls 9 [(0, .ref (aM 0)), (1, .int (nI x1_2))]) (hR : f_Model_order_h2 VM1 VM4 VM2 NM0 NM1 NM2 IM0 LM14 k_2 n x1_2 LM12_2 LM13_2 LM15_2 IM3_2 = r0), W p l e (headSpec u_Model_order ({ frames := 1, cells := 0, slots := 0, locals := 27 })).room s m ([.ref (aM 0)]).toArray below meth c H locs 0 0 (hh_Zv below (dC, dI) vwCl [(cI, .int), (cJ, .long), (cZ, .boolean)] A (w_M cI cJ cZ aM VM0 VM1 VM2 VM3 VM4 VM5 WM0 NM0 NM1 NM2 LM0 LM1 LM2 LM3 LM4 LM5 LM6 LM7 LM8 LM9 LM10 LM11 r0.1 r0.2.1 LM14 r0.2.2.1 IM0 IM1 IM2 r0.2.2.2) ([.ref (aM 0)]).toArray s) (F0 m 2 ls []) := by
    intro n
    induction n with
    | zero =>
      intro x1_2 LM12_2 LM13_2 LM15_2 IM3_2 hi hord hcl hfu H locs hP hD hS ls hl hR
      exact absurd hfu (Nat.not_lt_zero _)
    | succ n ih_2 =>
      intro x1_2 LM12_2 LM13_2 LM15_2 IM3_2 hi hord hcl hfu H locs hP hD hS ls hl hR
      rw [f_Model_order_h2] at hR
      obtain ⟨rec_2, hrec_2, hR⟩ : ∃ r, r = _ ∧ f_Model_order_h2B VM1 VM4 VM2 NM0 NM1 NM2 IM0 LM14 k_2 r x1_2 LM12_2 LM13_2 LM15_2 IM3_2 = r0 := ⟨_, rfl, hR⟩
      unfold f_Model_order_h2B at hR
      refine lv_iload_n hx hb d_Model_order_2 rfl (lv_at hl 1 rfl) ?_
      refine lv_aload_n hx hb d_Model_order_3 rfl (lv_at hl 0 rfl) ?_
      refine va_get (D := (dC, dI)) (ci := 5) (v := .int (nI VM1)) (C := R_Model) (T := T_Model) (N := 30) hx hb hG in_Model hown hK hP 0 rfl rfl 1 (by decide) (hG _ m_615) (fun _ h9 => h9) rfl d_Model_order_4 ?_
      refine lv_aload_n hx hb d_Model_order_7 rfl (lv_at hl 0 rfl) ?_
      refine va_get (D := (dC, dI)) (ci := 5) (v := .int (nI VM4)) (C := R_Model) (T := T_Model) (N := 30) hx hb hG in_Model hown hK hP 0 rfl rfl 18 (by decide) (hG _ m_632) (fun _ h9 => h9) rfl d_Model_order_8 ?_
      refine hw_iadd hx hb d_Model_order_11 ?_
      refine hw_icmp_ge (tgt := 181) hx hb d_Model_order_12 (by decide) (by omega) (by omega) (fun c12 => ?_) (fun c12 => ?_)
      · replace hR := (if_pos c12).symm.trans hR
        exact X_2 x1_2 LM12_2 LM13_2 LM15_2 IM3_2 (by first | assumption | omega | exact hw_upb (by assumption) (by omega)) (by first | assumption | omega | exact hw_upb (by assumption) (by omega)) (by first | assumption | omega | exact hw_upb (by assumption) (by omega)) H locs hP hD hS ls (lv_sub hl [0, 1] rfl) hR
      · replace hR := (if_neg c12).symm.trans hR
        refine lv_iconst (v := nI 0) hx hb d_Model_order_15 (by decide) ?_
        refine lv_istore_n (lv' := [(2, .int (nI 0)), (0, .ref (aM 0)), (1, .int (nI x1_2))]) hx hb d_Model_order_16 rfl hl (by decide) rfl (fun ls hl => ?_)
        obtain ⟨k_17, hk_17, hR⟩ : ∃ k, (f_Model_order_x17 rec_2 x1_2) = k ∧ f_Model_order_h17 VM2 VM1 NM0 NM1 NM2 IM0 x1_2 LM14 k 9 0 LM12_2 LM13_2 LM15_2 IM3_2 = r0 := ⟨_, rfl, hR⟩
        have X_17 : ∀ (x2_17 : Nat) (LM12_17 : Nat → Int64) (LM13_17 : Nat → Int64) (LM15_17 : Nat → Int64) (IM3_17 : Nat → Int32) (hi : x2_17 ≤ VM2) (hord : hm_Ord LM13_17 LM14 pi) (hcl : hm_Cells (VM1 + VM4) VM2 VM1 NM0 NM1 NM2 IM0 LM13_17 x1_2 x2_17) (H : Heap) (locs : List Loc) (hP : va_P (dC, dI) vwCl (w_M cI cJ cZ aM VM0 VM1 VM2 VM3 VM4 VM5 WM0 NM0 NM1 NM2 LM0 LM1 LM2 LM3 LM4 LM5 LM6 LM7 LM8 LM9 LM10 LM11 LM12_17 LM13_17 LM14 LM15_17 IM0 IM1 IM2 IM3_17) H) (hD : va_D A (w_M cI cJ cZ aM VM0 VM1 VM2 VM3 VM4 VM5 WM0 NM0 NM1 NM2 LM0 LM1 LM2 LM3 LM4 LM5 LM6 LM7 LM8 LM9 LM10 LM11 LM12_17 LM13_17 LM14 LM15_17 IM0 IM1 IM2 IM3_17)) (hS : va_S A s.heap H locs) (ls : Array Slot) (hl : lv_has ls 9 [(0, .ref (aM 0)), (1, .int (nI x1_2)), (2, .int (nI x2_17))]) (hR : k_17 x2_17 LM12_17 LM13_17 LM15_17 IM3_17 = r0), W p l e (headSpec u_Model_order ({ frames := 1, cells := 0, slots := 0, locals := 27 })).room s m ([.ref (aM 0)]).toArray below meth c H locs 0 0 (hh_Zv below (dC, dI) vwCl [(cI, .int), (cJ, .long), (cZ, .boolean)] A (w_M cI cJ cZ aM VM0 VM1 VM2 VM3 VM4 VM5 WM0 NM0 NM1 NM2 LM0 LM1 LM2 LM3 LM4 LM5 LM6 LM7 LM8 LM9 LM10 LM11 r0.1 r0.2.1 LM14 r0.2.2.1 IM0 IM1 IM2 r0.2.2.2) ([.ref (aM 0)]).toArray s) (F0 m 175 ls []) := by
          intro x2_17 LM12_17 LM13_17 LM15_17 IM3_17 hi hord hcl H locs hP hD hS ls hl hR
          rw [← hk_17] at hR
          unfold f_Model_order_x17 at hR
          refine lv_iinc (v := nI (x1_2 + 1)) (lv' := [(1, .int (nI (x1_2 + 1))), (0, .ref (aM 0)), (2, .int (nI x2_17))]) hx hb d_Model_order_175 hl (k := 1) rfl (hw_inc _ 1) (by decide) rfl (fun ls hl => ?_)
          refine lv_goto (tgt := 2) hx hb d_Model_order_178 (by decide) ?_
          rw [hrec_2] at hR
          exact ih_2 (x1_2 + 1) LM12_17 LM13_17 LM15_17 IM3_17 (by first | assumption | omega | exact hw_upb (by assumption) (by omega)) (by first | assumption | omega | exact hw_upb (by assumption) (by omega)) (by exact hcl.row) (by omega) H locs hP hD hS ls (lv_sub hl [1, 0] rfl) hR
        have L_17 : ∀ (n : Nat) (x2_17 : Nat) (LM12_17 : Nat → Int64) (LM13_17 : Nat → Int64) (LM15_17 : Nat → Int64) (IM3_17 : Nat → Int32) (hi : x2_17 ≤ VM2) (hord : hm_Ord LM13_17 LM14 pi) (hcl : hm_Cells (VM1 + VM4) VM2 VM1 NM0 NM1 NM2 IM0 LM13_17 x1_2 x2_17) (hfu : VM2 - x2_17 < n) (H : Heap) (locs : List Loc) (hP : va_P (dC, dI) vwCl (w_M cI cJ cZ aM VM0 VM1 VM2 VM3 VM4 VM5 WM0 NM0 NM1 NM2 LM0 LM1 LM2 LM3 LM4 LM5 LM6 LM7 LM8 LM9 LM10 LM11 LM12_17 LM13_17 LM14 LM15_17 IM0 IM1 IM2 IM3_17) H) (hD : va_D A (w_M cI cJ cZ aM VM0 VM1 VM2 VM3 VM4 VM5 WM0 NM0 NM1 NM2 LM0 LM1 LM2 LM3 LM4 LM5 LM6 LM7 LM8 LM9 LM10 LM11 LM12_17 LM13_17 LM14 LM15_17 IM0 IM1 IM2 IM3_17)) (hS : va_S A s.heap H locs) (ls : Array Slot) (hl : lv_has ls 9 [(0, .ref (aM 0)), (1, .int (nI x1_2)), (2, .int (nI x2_17))]) (hR : f_Model_order_h17 VM2 VM1 NM0 NM1 NM2 IM0 x1_2 LM14 k_17 n x2_17 LM12_17 LM13_17 LM15_17 IM3_17 = r0), W p l e (headSpec u_Model_order ({ frames := 1, cells := 0, slots := 0, locals := 27 })).room s m ([.ref (aM 0)]).toArray below meth c H locs 0 0 (hh_Zv below (dC, dI) vwCl [(cI, .int), (cJ, .long), (cZ, .boolean)] A (w_M cI cJ cZ aM VM0 VM1 VM2 VM3 VM4 VM5 WM0 NM0 NM1 NM2 LM0 LM1 LM2 LM3 LM4 LM5 LM6 LM7 LM8 LM9 LM10 LM11 r0.1 r0.2.1 LM14 r0.2.2.1 IM0 IM1 IM2 r0.2.2.2) ([.ref (aM 0)]).toArray s) (F0 m 17 ls []) := by
          intro n
          induction n with
          | zero =>
            intro x2_17 LM12_17 LM13_17 LM15_17 IM3_17 hi hord hcl hfu H locs hP hD hS ls hl hR
            exact absurd hfu (Nat.not_lt_zero _)
          | succ n ih_17 =>
            intro x2_17 LM12_17 LM13_17 LM15_17 IM3_17 hi hord hcl hfu H locs hP hD hS ls hl hR
            rw [f_Model_order_h17] at hR
            obtain ⟨rec_17, hrec_17, hR⟩ : ∃ r, r = _ ∧ f_Model_order_h17B VM2 VM1 NM0 NM1 NM2 IM0 x1_2 LM14 k_17 r x2_17 LM12_17 LM13_17 LM15_17 IM3_17 = r0 := ⟨_, rfl, hR⟩
            unfold f_Model_order_h17B at hR
            refine lv_iload_n hx hb d_Model_order_17 rfl (lv_at hl 2 rfl) ?_
            refine lv_aload_n hx hb d_Model_order_18 rfl (lv_at hl 0 rfl) ?_
            refine va_get (D := (dC, dI)) (ci := 5) (v := .int (nI VM2)) (C := R_Model) (T := T_Model) (N := 30) hx hb hG in_Model hown hK hP 0 rfl rfl 6 (by decide) (hG _ m_620) (fun _ h9 => h9) rfl d_Model_order_19 ?_
            refine hw_icmp_ge (tgt := 175) hx hb d_Model_order_22 (by decide) (by omega) (by omega) (fun c22 => ?_) (fun c22 => ?_)
            · replace hR := (if_pos c22).symm.trans hR
              exact X_17 x2_17 LM12_17 LM13_17 LM15_17 IM3_17 (by first | assumption | omega | exact hw_upb (by assumption) (by omega)) (by first | assumption | omega | exact hw_upb (by assumption) (by omega)) (by first | assumption | omega | exact hw_upb (by assumption) (by omega)) H locs hP hD hS ls (lv_sub hl [0, 1, 2] rfl) hR
            · replace hR := (if_neg c22).symm.trans hR
              refine lv_bipush (v := nI 34) hx hb d_Model_order_25 (by decide) ?_
              refine lv_iconst (v := nI 1) hx hb d_Model_order_27 (by decide) ?_
              refine lv_iload_n hx hb d_Model_order_28 rfl (lv_at hl 1 rfl) ?_
              refine hw_iadd hx hb d_Model_order_29 ?_
              refine hw_imul hx hb d_Model_order_30 ?_
              refine lv_bipush (v := nI 13) hx hb d_Model_order_31 (by decide) ?_
              refine hw_iadd hx hb d_Model_order_33 ?_
              refine lv_iload_n hx hb d_Model_order_34 rfl (lv_at hl 2 rfl) ?_
              refine hw_iadd hx hb d_Model_order_35 ?_
              refine lv_istore_n (lv' := [(3, .int (nI (((34 * (1 + x1_2)) + 13) + x2_17))), (0, .ref (aM 0)), (1, .int (nI x1_2)), (2, .int (nI x2_17))]) hx hb d_Model_order_36 rfl hl (by decide) rfl (fun ls hl => ?_)
              refine lv_bipush (v := nI 34) hx hb d_Model_order_37 (by decide) ?_
              refine lv_bipush (v := nI 13) hx hb d_Model_order_39 (by decide) ?_
              refine lv_iload_n hx hb d_Model_order_41 rfl (lv_at hl 3 rfl) ?_
              refine hw_iadd hx hb d_Model_order_42 ?_
              refine hw_imul hx hb d_Model_order_43 ?_
              refine lv_iconst (v := nI 1) hx hb d_Model_order_44 (by decide) ?_
              refine hw_iadd hx hb d_Model_order_45 ?_
              refine lv_iload_n hx hb d_Model_order_46 rfl (lv_at hl 2 rfl) ?_
              refine hw_iadd hx hb d_Model_order_47 ?_
              refine lv_istore (lv' := [(4, .int (nI (((34 * (13 + x2_17)) + 1) + x1_2))), (3, .int (nI (((34 * (1 + x1_2)) + 13) + x2_17))), (0, .ref (aM 0)), (1, .int (nI x1_2)), (2, .int (nI x2_17))]) hx hb d_Model_order_48 hl (by decide) rfl (fun ls hl => ?_)
              refine lv_aload_n hx hb d_Model_order_50 rfl (lv_at hl 2 rfl) ?_
              refine lv_iload_n hx hb d_Model_order_51 rfl (lv_at hl 3 rfl) ?_
              refine lv_iload_n hx hb d_Model_order_52 rfl (lv_at hl 4 rfl) ?_
              obtain ⟨y53, hy53, hR⟩ := hw_bind hR
              have hM := c_Model_serves l dC dI cI cJ cZ H.size aM VM0 VM1 VM2 VM3 VM4 VM5 WM0 NM0 NM1 NM2 LM0 LM1 LM2 LM3 LM4 LM5 LM6 LM7 LM8 LM9 LM10 LM11 LM12_17 LM13_17 LM14 LM15_17 IM0 IM1 IM2 IM3_17 x1_2 x2_17 (by first | assumption | omega) (by first | assumption | omega) (by first | assumption | omega) (by first | assumption | omega) (by first | assumption | omega) (by first | assumption | omega)
              rw [hy53] at hM
              refine hw_callVi (As := [.int (nI x1_2), .int (nI x2_17)]) (rest := []) (wr := ([] : va_W)) ⟨hx, hb, hml, hown, hG⟩ hM (hw_cwV 2 hG m_762 m_764 mp_23 m_7 m_765 rfl rfl (by decide +kernel) ⟨Nat.le_of_ble_eq_true rfl, Nat.le_of_ble_eq_true rfl⟩) hK hP hD hS hA [0, 1, 2, 3, 4, 5, 6, 7, 8, 9, 10, 11, 12, 13, 14, 15, 16, 17, 18, 19, 20, 21, 22, 23] [] rfl rfl (by decide) (by decide) (by decide) (hw_recv hK hP 0 rfl rfl) rfl hl.1 rfl (Nat.le_of_ble_eq_true rfl) d_Model_order_53 ⟨Nat.le_of_ble_eq_true rfl, Nat.le_of_ble_eq_true rfl⟩ (fun H locs hP hD hS => ?_)
              have hP : va_P (dC, dI) vwCl (w_M cI cJ cZ aM VM0 VM1 VM2 VM3 VM4 VM5 WM0 NM0 NM1 NM2 LM0 LM1 LM2 LM3 LM4 LM5 LM6 LM7 LM8 LM9 LM10 LM11 LM12_17 LM13_17 LM14 LM15_17 IM0 IM1 IM2 IM3_17) H := hP
              have hD : va_D A (w_M cI cJ cZ aM VM0 VM1 VM2 VM3 VM4 VM5 WM0 NM0 NM1 NM2 LM0 LM1 LM2 LM3 LM4 LM5 LM6 LM7 LM8 LM9 LM10 LM11 LM12_17 LM13_17 LM14 LM15_17 IM0 IM1 IM2 IM3_17) := hD
              refine lv_if_eq (tgt := 157) hx hb d_Model_order_56 (by decide) (fun c56 => ?_) (fun c56 => ?_)
              · replace hR := (if_pos c56).symm.trans hR
                refine lv_aload_n hx hb d_Model_order_157 rfl (lv_at hl 2 rfl) ?_
                refine va_get (D := (dC, dI)) (ci := 5) (v := .ref (aM 18)) (C := R_Model) (T := T_Model) (N := 30) hx hb hG in_Model hown hK hP 0 rfl rfl 23 (by decide) (hG _ m_637) (fun _ h9 => h9) rfl d_Model_order_158 ?_
                refine lv_bipush (v := nI 8) hx hb d_Model_order_161 (by decide) ?_
                refine lv_iload_n hx hb d_Model_order_163 rfl (lv_at hl 3 rfl) ?_
                refine hw_imul hx hb d_Model_order_164 ?_
                refine lv_iload_n hx hb d_Model_order_165 rfl (lv_at hl 4 rfl) ?_
                refine hw_iadd hx hb d_Model_order_166 ?_
                refine lv_lconst (v := 0) hx hb d_Model_order_167 (by decide) ?_
                refine hw_last (f := LM12_17) hx hb hK hP hD hS 18 1 rfl rfl (by decide) (by omega) d_Model_order_168 (fun H locs hP hD hS => ?_)
                have hP : va_P (dC, dI) vwCl (w_M cI cJ cZ aM VM0 VM1 VM2 VM3 VM4 VM5 WM0 NM0 NM1 NM2 LM0 LM1 LM2 LM3 LM4 LM5 LM6 LM7 LM8 LM9 LM10 LM11 (vp_updL LM12_17 ((8 * x1_2) + x2_17) 0) LM13_17 LM14 LM15_17 IM0 IM1 IM2 IM3_17) H := hP
                have hD : va_D A (w_M cI cJ cZ aM VM0 VM1 VM2 VM3 VM4 VM5 WM0 NM0 NM1 NM2 LM0 LM1 LM2 LM3 LM4 LM5 LM6 LM7 LM8 LM9 LM10 LM11 (vp_updL LM12_17 ((8 * x1_2) + x2_17) 0) LM13_17 LM14 LM15_17 IM0 IM1 IM2 IM3_17) := hD
                refine lv_iinc (v := nI (x2_17 + 1)) (lv' := [(2, .int (nI (x2_17 + 1))), (4, .int (nI (((34 * (13 + x2_17)) + 1) + x1_2))), (3, .int (nI (((34 * (1 + x1_2)) + 13) + x2_17))), (0, .ref (aM 0)), (1, .int (nI x1_2))]) hx hb d_Model_order_169 hl (k := 4) rfl (hw_inc _ 1) (by decide) rfl (fun ls hl => ?_)
                refine lv_goto (tgt := 17) hx hb d_Model_order_172 (by decide) ?_
                rw [hrec_17] at hR
                exact ih_17 (x2_17 + 1) (vp_updL LM12_17 ((8 * x1_2) + x2_17) 0) LM13_17 LM15_17 IM3_17 (by first | assumption | omega | exact hw_upb (by assumption) (by omega)) (by first | assumption | omega | exact hw_upb (by assumption) (by omega)) (by first | assumption | exact hcl.next) (by omega) H locs hP hD hS ls (lv_sub hl [3, 4, 0] rfl) hR
              · replace hR := (if_neg c56).symm.trans hR
                have hpp := hm_cell_pot hord (s := x1_2) (f := x2_17) (by omega) (by omega) (by omega) (by omega) hcl (by rw [hy53]; exact c56)
                refine lv_aload_n hx hb d_Model_order_59 rfl (lv_at hl 2 rfl) ?_
                refine va_get (D := (dC, dI)) (ci := 5) (v := .ref (aM 20)) (C := R_Model) (T := T_Model) (N := 30) hx hb hG in_Model hown hK hP 0 rfl rfl 26 (by decide) (hG _ m_640) (fun _ h9 => h9) rfl d_Model_order_60 ?_
                refine lv_iload hx hb d_Model_order_63 (lv_at hl 0 rfl) ?_
                refine hw_lald (f := LM13_17) hx hb hK hP 20 1 rfl rfl (by decide) (by omega) d_Model_order_65 ?_
                refine lv_lstore (lv' := [(5, .long (LM13_17 (((34 * (13 + x2_17)) + 1) + x1_2))), (4, .int (nI (((34 * (13 + x2_17)) + 1) + x1_2))), (3, .int (nI (((34 * (1 + x1_2)) + 13) + x2_17))), (0, .ref (aM 0)), (1, .int (nI x1_2)), (2, .int (nI x2_17))]) hx hb d_Model_order_66 hl (by decide) rfl (fun ls hl => ?_)
                refine lv_aload_n hx hb d_Model_order_68 rfl (lv_at hl 3 rfl) ?_
                refine va_get (D := (dC, dI)) (ci := 5) (v := .ref (aM 21)) (C := R_Model) (T := T_Model) (N := 30) hx hb hG in_Model hown hK hP 0 rfl rfl 27 (by decide) (hG _ m_641) (fun _ h9 => h9) rfl d_Model_order_69 ?_
                refine lv_iload_n hx hb d_Model_order_72 rfl (lv_at hl 2 rfl) ?_
                refine hw_lald (f := LM14) hx hb hK hP 21 1 rfl rfl (by decide) (by omega) d_Model_order_73 ?_
                refine lv_lstore (lv' := [(7, .long (LM14 (((34 * (1 + x1_2)) + 13) + x2_17))), (5, .long (LM13_17 (((34 * (13 + x2_17)) + 1) + x1_2))), (4, .int (nI (((34 * (13 + x2_17)) + 1) + x1_2))), (3, .int (nI (((34 * (1 + x1_2)) + 13) + x2_17))), (0, .ref (aM 0)), (1, .int (nI x1_2)), (2, .int (nI x2_17))]) hx hb d_Model_order_74 hl (by decide) rfl (fun ls hl => ?_)
                refine lv_aload_n hx hb d_Model_order_76 rfl (lv_at hl 4 rfl) ?_
                refine va_get (D := (dC, dI)) (ci := 5) (v := .ref (aM 20)) (C := R_Model) (T := T_Model) (N := 30) hx hb hG in_Model hown hK hP 0 rfl rfl 26 (by decide) (hG _ m_640) (fun _ h9 => h9) rfl d_Model_order_77 ?_
                refine lv_iload_n hx hb d_Model_order_80 rfl (lv_at hl 3 rfl) ?_
                refine lv_lconst (v := 0) hx hb d_Model_order_81 (by decide) ?_
                refine hw_last (f := LM13_17) hx hb hK hP hD hS 20 1 rfl rfl (by decide) (by omega) d_Model_order_82 (fun H locs hP hD hS => ?_)
                have hP : va_P (dC, dI) vwCl (w_M cI cJ cZ aM VM0 VM1 VM2 VM3 VM4 VM5 WM0 NM0 NM1 NM2 LM0 LM1 LM2 LM3 LM4 LM5 LM6 LM7 LM8 LM9 LM10 LM11 LM12_17 (vp_updL LM13_17 (((34 * (1 + x1_2)) + 13) + x2_17) 0) LM14 LM15_17 IM0 IM1 IM2 IM3_17) H := hP
                have hD : va_D A (w_M cI cJ cZ aM VM0 VM1 VM2 VM3 VM4 VM5 WM0 NM0 NM1 NM2 LM0 LM1 LM2 LM3 LM4 LM5 LM6 LM7 LM8 LM9 LM10 LM11 LM12_17 (vp_updL LM13_17 (((34 * (1 + x1_2)) + 13) + x2_17) 0) LM14 LM15_17 IM0 IM1 IM2 IM3_17) := hD
                refine lv_aload_n hx hb d_Model_order_83 rfl (lv_at hl 4 rfl) ?_
                refine va_get (D := (dC, dI)) (ci := 5) (v := .ref (aM 20)) (C := R_Model) (T := T_Model) (N := 30) hx hb hG in_Model hown hK hP 0 rfl rfl 26 (by decide) (hG _ m_640) (fun _ h9 => h9) rfl d_Model_order_84 ?_
                refine lv_iload hx hb d_Model_order_87 (lv_at hl 2 rfl) ?_
                refine lv_lconst (v := 0) hx hb d_Model_order_89 (by decide) ?_
                refine hw_last (f := (vp_updL LM13_17 (((34 * (1 + x1_2)) + 13) + x2_17) 0)) hx hb hK hP hD hS 20 1 rfl rfl (by decide) (by omega) d_Model_order_90 (fun H locs hP hD hS => ?_)
                have hP : va_P (dC, dI) vwCl (w_M cI cJ cZ aM VM0 VM1 VM2 VM3 VM4 VM5 WM0 NM0 NM1 NM2 LM0 LM1 LM2 LM3 LM4 LM5 LM6 LM7 LM8 LM9 LM10 LM11 LM12_17 (vp_updL (vp_updL LM13_17 (((34 * (1 + x1_2)) + 13) + x2_17) 0) (((34 * (13 + x2_17)) + 1) + x1_2) 0) LM14 LM15_17 IM0 IM1 IM2 IM3_17) H := hP
                have hD : va_D A (w_M cI cJ cZ aM VM0 VM1 VM2 VM3 VM4 VM5 WM0 NM0 NM1 NM2 LM0 LM1 LM2 LM3 LM4 LM5 LM6 LM7 LM8 LM9 LM10 LM11 LM12_17 (vp_updL (vp_updL LM13_17 (((34 * (1 + x1_2)) + 13) + x2_17) 0) (((34 * (13 + x2_17)) + 1) + x1_2) 0) LM14 LM15_17 IM0 IM1 IM2 IM3_17) := hD
                have hord := hm_close' hord (s := x1_2) (f := x2_17) (by omega) (by omega)
                have hcl := hcl.closed (by omega) (by omega)
                refine lv_aload_n hx hb d_Model_order_91 rfl (lv_at hl 4 rfl) ?_
                refine lv_bipush (v := nI 13) hx hb d_Model_order_92 (by decide) ?_
                refine lv_iload_n hx hb d_Model_order_94 rfl (lv_at hl 6 rfl) ?_
                refine hw_iadd hx hb d_Model_order_95 ?_
                obtain ⟨y96, hy96, hR⟩ := hw_bind hR
                have hM := c_Model_measure l dC dI cI cJ cZ H.size aM VM0 VM1 VM2 VM3 VM4 VM5 WM0 NM0 NM1 NM2 LM0 LM1 LM2 LM3 LM4 LM5 LM6 LM7 LM8 LM9 LM10 LM11 LM12_17 (vp_updL (vp_updL LM13_17 (((34 * (1 + x1_2)) + 13) + x2_17) 0) (((34 * (13 + x2_17)) + 1) + x1_2) 0) LM14 LM15_17 IM0 IM1 IM2 IM3_17 (13 + x2_17) (by first | assumption | omega) hm_mu (hm_Iv _ LM14 pi (13 + x2_17)) (fun _ _ _ _ => hm_relax hord.1 hord.2.1 hord.pb (by omega)) (fun far bef h _ => hm_init (by omega) far bef h)
                rw [hy96] at hM
                refine hw_callVv (As := [.int (nI (13 + x2_17))]) (rest := []) (wr := ([] : va_W)) ⟨hx, hb, hml, hown, hG⟩ hM (hw_cwV 1 hG m_781 m_783 mp_27 m_7 m_784 rfl rfl (by decide +kernel) ⟨Nat.le_of_ble_eq_true rfl, Nat.le_of_ble_eq_true rfl⟩) hK hP hD hS hA [0, 1, 2, 3, 4, 5, 6, 7, 8, 9, 10, 11, 12, 13, 14, 15, 16, 17, 18, 19, 20, 21, 22, 23] [] rfl rfl (by decide) (by decide) (by decide) (hw_recv hK hP 0 rfl rfl) rfl hl.1 rfl (Nat.le_of_ble_eq_true rfl) d_Model_order_96 ⟨Nat.le_of_ble_eq_true rfl, Nat.le_of_ble_eq_true rfl⟩ (fun H locs hP hD hS => ?_)
                have hP : va_P (dC, dI) vwCl (w_M cI cJ cZ aM VM0 VM1 VM2 VM3 VM4 VM5 WM0 NM0 NM1 NM2 LM0 LM1 LM2 LM3 LM4 LM5 LM6 LM7 LM8 LM9 LM10 LM11 LM12_17 (vp_updL (vp_updL LM13_17 (((34 * (1 + x1_2)) + 13) + x2_17) 0) (((34 * (13 + x2_17)) + 1) + x1_2) 0) LM14 y96.1 IM0 IM1 IM2 y96.2) H := hP
                have hD : va_D A (w_M cI cJ cZ aM VM0 VM1 VM2 VM3 VM4 VM5 WM0 NM0 NM1 NM2 LM0 LM1 LM2 LM3 LM4 LM5 LM6 LM7 LM8 LM9 LM10 LM11 LM12_17 (vp_updL (vp_updL LM13_17 (((34 * (1 + x1_2)) + 13) + x2_17) 0) (((34 * (13 + x2_17)) + 1) + x1_2) 0) LM14 y96.1 IM0 IM1 IM2 y96.2) := hD
                have hgd0 := hm_measure hord.1 hord.2.1 hord.pb (show 13 + x2_17 < 34 by omega) LM15_17 IM3_17
                rw [hy96] at hgd0
                have hho0 := hm_ho hord.2.2.1 (show 13 + x2_17 < 34 by omega)
                obtain ⟨k_99, hk_99, hR⟩ : ∃ k, (f_Model_order_x99 rec_17 x2_17 LM12_17 x1_2) = k ∧ f_Model_order_h99 x1_2 LM14 x2_17 k 100000000000000000000 (LM13_17 (((34 * (13 + x2_17)) + 1) + x1_2)) (vp_updL (vp_updL LM13_17 (((34 * (1 + x1_2)) + 13) + x2_17) 0) (((34 * (13 + x2_17)) + 1) + x1_2) 0) y96.1 y96.2 = r0 := ⟨_, rfl, hR⟩
                have X_99 : ∀ (x5_99 : Int64) (LM13_99 : Nat → Int64) (LM15_99 : Nat → Int64) (IM3_99 : Nat → Int32) (hord : hm_Ord LM13_99 LM14 pi) (hgd : hm_Good LM13_99 LM14 pi (13 + x2_17) (LM15_99, IM3_99)) (hcl : hm_Cells (VM1 + VM4) VM2 VM1 NM0 NM1 NM2 IM0 LM13_99 x1_2 (x2_17 + 1)) (H : Heap) (locs : List Loc) (hP : va_P (dC, dI) vwCl (w_M cI cJ cZ aM VM0 VM1 VM2 VM3 VM4 VM5 WM0 NM0 NM1 NM2 LM0 LM1 LM2 LM3 LM4 LM5 LM6 LM7 LM8 LM9 LM10 LM11 LM12_17 LM13_99 LM14 LM15_99 IM0 IM1 IM2 IM3_99) H) (hD : va_D A (w_M cI cJ cZ aM VM0 VM1 VM2 VM3 VM4 VM5 WM0 NM0 NM1 NM2 LM0 LM1 LM2 LM3 LM4 LM5 LM6 LM7 LM8 LM9 LM10 LM11 LM12_17 LM13_99 LM14 LM15_99 IM0 IM1 IM2 IM3_99)) (hS : va_S A s.heap H locs) (ls : Array Slot) (hl : lv_has ls 9 [(0, .ref (aM 0)), (1, .int (nI x1_2)), (2, .int (nI x2_17)), (3, .int (nI (((34 * (1 + x1_2)) + 13) + x2_17))), (4, .int (nI (((34 * (13 + x2_17)) + 1) + x1_2))), (5, .long x5_99), (7, .long (LM14 (((34 * (1 + x1_2)) + 13) + x2_17)))]) (hR : k_99 x5_99 LM13_99 LM15_99 IM3_99 = r0), W p l e (headSpec u_Model_order ({ frames := 1, cells := 0, slots := 0, locals := 27 })).room s m ([.ref (aM 0)]).toArray below meth c H locs 0 0 (hh_Zv below (dC, dI) vwCl [(cI, .int), (cJ, .long), (cZ, .boolean)] A (w_M cI cJ cZ aM VM0 VM1 VM2 VM3 VM4 VM5 WM0 NM0 NM1 NM2 LM0 LM1 LM2 LM3 LM4 LM5 LM6 LM7 LM8 LM9 LM10 LM11 r0.1 r0.2.1 LM14 r0.2.2.1 IM0 IM1 IM2 r0.2.2.2) ([.ref (aM 0)]).toArray s) (F0 m 141 ls []) := by
                  intro x5_99 LM13_99 LM15_99 IM3_99 hord hgd hcl H locs hP hD hS ls hl hR
                  rw [← hk_99] at hR
                  unfold f_Model_order_x99 at hR
                  refine lv_aload_n hx hb d_Model_order_141 rfl (lv_at hl 0 rfl) ?_
                  refine va_get (D := (dC, dI)) (ci := 5) (v := .ref (aM 18)) (C := R_Model) (T := T_Model) (N := 30) hx hb hG in_Model hown hK hP 0 rfl rfl 23 (by decide) (hG _ m_637) (fun _ h9 => h9) rfl d_Model_order_142 ?_
                  refine lv_bipush (v := nI 8) hx hb d_Model_order_145 (by decide) ?_
                  refine lv_iload_n hx hb d_Model_order_147 rfl (lv_at hl 1 rfl) ?_
                  refine hw_imul hx hb d_Model_order_148 ?_
                  refine lv_iload_n hx hb d_Model_order_149 rfl (lv_at hl 2 rfl) ?_
                  refine hw_iadd hx hb d_Model_order_150 ?_
                  refine lv_lload hx hb d_Model_order_151 (lv_at hl 5 rfl) ?_
                  refine hw_last (f := LM12_17) hx hb hK hP hD hS 18 1 rfl rfl (by decide) (by omega) d_Model_order_153 (fun H locs hP hD hS => ?_)
                  have hP : va_P (dC, dI) vwCl (w_M cI cJ cZ aM VM0 VM1 VM2 VM3 VM4 VM5 WM0 NM0 NM1 NM2 LM0 LM1 LM2 LM3 LM4 LM5 LM6 LM7 LM8 LM9 LM10 LM11 (vp_updL LM12_17 ((8 * x1_2) + x2_17) x5_99) LM13_99 LM14 LM15_99 IM0 IM1 IM2 IM3_99) H := hP
                  have hD : va_D A (w_M cI cJ cZ aM VM0 VM1 VM2 VM3 VM4 VM5 WM0 NM0 NM1 NM2 LM0 LM1 LM2 LM3 LM4 LM5 LM6 LM7 LM8 LM9 LM10 LM11 (vp_updL LM12_17 ((8 * x1_2) + x2_17) x5_99) LM13_99 LM14 LM15_99 IM0 IM1 IM2 IM3_99) := hD
                  refine lv_goto (tgt := 169) hx hb d_Model_order_154 (by decide) ?_
                  refine lv_iinc (v := nI (x2_17 + 1)) (lv' := [(2, .int (nI (x2_17 + 1))), (0, .ref (aM 0)), (1, .int (nI x1_2)), (3, .int (nI (((34 * (1 + x1_2)) + 13) + x2_17))), (4, .int (nI (((34 * (13 + x2_17)) + 1) + x1_2))), (5, .long x5_99), (7, .long (LM14 (((34 * (1 + x1_2)) + 13) + x2_17)))]) hx hb d_Model_order_169 hl (k := 2) rfl (hw_inc _ 1) (by decide) rfl (fun ls hl => ?_)
                  refine lv_goto (tgt := 17) hx hb d_Model_order_172 (by decide) ?_
                  rw [hrec_17] at hR
                  exact ih_17 (x2_17 + 1) (vp_updL LM12_17 ((8 * x1_2) + x2_17) x5_99) LM13_99 LM15_99 IM3_99 (by first | assumption | omega | exact hw_upb (by assumption) (by omega)) (by first | assumption | omega | exact hw_upb (by assumption) (by omega)) (by first | assumption | exact hcl.next) (by omega) H locs hP hD hS ls (lv_sub hl [1, 2, 0] rfl) hR
                have L_99 : ∀ (n : Nat) (x5_99 : Int64) (LM13_99 : Nat → Int64) (LM15_99 : Nat → Int64) (IM3_99 : Nat → Int32) (hord : hm_Ord LM13_99 LM14 pi) (hgd : hm_Good LM13_99 LM14 pi (13 + x2_17) (LM15_99, IM3_99)) (hcl : hm_Cells (VM1 + VM4) VM2 VM1 NM0 NM1 NM2 IM0 LM13_99 x1_2 (x2_17 + 1)) (hfu : (ho LM13_99 (13 + x2_17)).toNat < n) (H : Heap) (locs : List Loc) (hP : va_P (dC, dI) vwCl (w_M cI cJ cZ aM VM0 VM1 VM2 VM3 VM4 VM5 WM0 NM0 NM1 NM2 LM0 LM1 LM2 LM3 LM4 LM5 LM6 LM7 LM8 LM9 LM10 LM11 LM12_17 LM13_99 LM14 LM15_99 IM0 IM1 IM2 IM3_99) H) (hD : va_D A (w_M cI cJ cZ aM VM0 VM1 VM2 VM3 VM4 VM5 WM0 NM0 NM1 NM2 LM0 LM1 LM2 LM3 LM4 LM5 LM6 LM7 LM8 LM9 LM10 LM11 LM12_17 LM13_99 LM14 LM15_99 IM0 IM1 IM2 IM3_99)) (hS : va_S A s.heap H locs) (ls : Array Slot) (hl : lv_has ls 9 [(0, .ref (aM 0)), (1, .int (nI x1_2)), (2, .int (nI x2_17)), (3, .int (nI (((34 * (1 + x1_2)) + 13) + x2_17))), (4, .int (nI (((34 * (13 + x2_17)) + 1) + x1_2))), (5, .long x5_99), (7, .long (LM14 (((34 * (1 + x1_2)) + 13) + x2_17)))]) (hR : f_Model_order_h99 x1_2 LM14 x2_17 k_99 n x5_99 LM13_99 LM15_99 IM3_99 = r0), W p l e (headSpec u_Model_order ({ frames := 1, cells := 0, slots := 0, locals := 27 })).room s m ([.ref (aM 0)]).toArray below meth c H locs 0 0 (hh_Zv below (dC, dI) vwCl [(cI, .int), (cJ, .long), (cZ, .boolean)] A (w_M cI cJ cZ aM VM0 VM1 VM2 VM3 VM4 VM5 WM0 NM0 NM1 NM2 LM0 LM1 LM2 LM3 LM4 LM5 LM6 LM7 LM8 LM9 LM10 LM11 r0.1 r0.2.1 LM14 r0.2.2.1 IM0 IM1 IM2 r0.2.2.2) ([.ref (aM 0)]).toArray s) (F0 m 99 ls []) := by
                  intro n
                  induction n with
                  | zero =>
                    intro x5_99 LM13_99 LM15_99 IM3_99 hord hgd hcl hfu H locs hP hD hS ls hl hR
                    exact absurd hfu (Nat.not_lt_zero _)
                  | succ n ih_99 =>
                    intro x5_99 LM13_99 LM15_99 IM3_99 hord hgd hcl hfu H locs hP hD hS ls hl hR
                    rw [f_Model_order_h99] at hR
                    obtain ⟨rec_99, hrec_99, hR⟩ : ∃ r, r = _ ∧ f_Model_order_h99B x1_2 LM14 x2_17 k_99 r x5_99 LM13_99 LM15_99 IM3_99 = r0 := ⟨_, rfl, hR⟩
                    unfold f_Model_order_h99B at hR
                    refine lv_aload_n hx hb d_Model_order_99 rfl (lv_at hl 0 rfl) ?_
                    refine va_get (D := (dC, dI)) (ci := 5) (v := .ref (aM 22)) (C := R_Model) (T := T_Model) (N := 30) hx hb hG in_Model hown hK hP 0 rfl rfl 28 (by decide) (hG _ m_642) (fun _ h9 => h9) rfl d_Model_order_100 ?_
                    refine lv_iconst (v := nI 1) hx hb d_Model_order_103 (by decide) ?_
                    refine lv_iload_n hx hb d_Model_order_104 rfl (lv_at hl 1 rfl) ?_
                    refine hw_iadd hx hb d_Model_order_105 ?_
                    refine hw_lald (f := LM15_99) hx hb hK hP 22 1 rfl rfl (by decide) (by omega) d_Model_order_106 ?_
                    refine lv_lload hx hb d_Model_order_107 (lv_at hl 6 rfl) ?_
                    refine lv_lneg hx hb d_Model_order_109 ?_
                    refine hw_lcmp_ne (tgt := 141) hx hb d_Model_order_110 d_Model_order_111 (by decide) (fun c110 => ?_) (fun c110 => ?_)
                    · replace hR := (if_neg c110).symm.trans hR
                      exact X_99 x5_99 LM13_99 LM15_99 IM3_99 (by first | assumption | omega | exact hw_upb (by assumption) (by omega)) (by first | assumption | omega | exact hw_upb (by assumption) (by omega)) (by first | assumption | omega | exact hw_upb (by assumption) (by omega)) H locs hP hD hS ls (lv_sub hl [0, 1, 2, 3, 4, 5, 6] rfl) hR
                    · replace hR := (if_pos c110).symm.trans hR
                      have hbr := hm_back_road hord (s := x1_2) (f := x2_17) (by omega) (by omega) hpp c110
                      obtain ⟨dep1, htr1⟩ := hm_Good.tree hord.2.1 hord.pb (by omega) hgd
                      refine lv_lload hx hb d_Model_order_114 (lv_at hl 5 rfl) ?_
                      refine lv_aload_n hx hb d_Model_order_116 rfl (lv_at hl 0 rfl) ?_
                      refine lv_bipush (v := nI 13) hx hb d_Model_order_117 (by decide) ?_
                      refine lv_iload_n hx hb d_Model_order_119 rfl (lv_at hl 2 rfl) ?_
                      refine hw_iadd hx hb d_Model_order_120 ?_
                      refine lv_iconst (v := nI 1) hx hb d_Model_order_121 (by decide) ?_
                      refine lv_iload_n hx hb d_Model_order_122 rfl (lv_at hl 1 rfl) ?_
                      refine hw_iadd hx hb d_Model_order_123 ?_
                      obtain ⟨y124, hy124, hR⟩ := hw_bind hR
                      have hM := c_Model_send l dC dI cI cJ cZ H.size aM VM0 VM1 VM2 VM3 VM4 VM5 WM0 NM0 NM1 NM2 LM0 LM1 LM2 LM3 LM4 LM5 LM6 LM7 LM8 LM9 LM10 LM11 LM12_17 LM13_99 LM14 LM15_99 IM0 IM1 IM2 IM3_99 (13 + x2_17) (1 + x1_2) (by first | assumption | omega) (hm_Rs LM15_99) dep1 (hm_rsc htr1) ⟨by omega, hbr.1⟩
                      rw [hy124] at hM
                      refine hw_callVl (As := [.int (nI (13 + x2_17)), .int (nI (1 + x1_2))]) (rest := [.long x5_99]) (wr := ([] : va_W)) ⟨hx, hb, hml, hown, hG⟩ hM (hw_cwV 2 hG m_786 m_788 mp_28 m_7 m_789 rfl rfl (by decide +kernel) ⟨Nat.le_of_ble_eq_true rfl, Nat.le_of_ble_eq_true rfl⟩) hK hP hD hS hA [0, 1, 2, 3, 4, 5, 6, 7, 8, 9, 10, 11, 12, 13, 14, 15, 16, 17, 18, 19, 20, 21, 22, 23] [] rfl rfl (by decide) (by decide) (by decide) (hw_recv hK hP 0 rfl rfl) rfl hl.1 rfl (Nat.le_of_ble_eq_true rfl) d_Model_order_124 ⟨Nat.le_of_ble_eq_true rfl, Nat.le_of_ble_eq_true rfl⟩ (fun H locs hP hD hS => ?_)
                      have hP : va_P (dC, dI) vwCl (w_M cI cJ cZ aM VM0 VM1 VM2 VM3 VM4 VM5 WM0 NM0 NM1 NM2 LM0 LM1 LM2 LM3 LM4 LM5 LM6 LM7 LM8 LM9 LM10 LM11 LM12_17 y124.2 LM14 LM15_99 IM0 IM1 IM2 IM3_99) H := hP
                      have hD : va_D A (w_M cI cJ cZ aM VM0 VM1 VM2 VM3 VM4 VM5 WM0 NM0 NM1 NM2 LM0 LM1 LM2 LM3 LM4 LM5 LM6 LM7 LM8 LM9 LM10 LM11 LM12_17 y124.2 LM14 LM15_99 IM0 IM1 IM2 IM3_99) := hD
                      obtain ⟨hsw, hm0, hm1, dep2, L2, hJ2, hp2⟩ := hm_swap hord (show 13 + x2_17 < 34 by omega) (show 1 + x1_2 < 34 by omega) hgd hbr.1 hbr.2 (by omega) (fun f hf => by omega)
                      rw [hy124] at hsw hm0 hm1 hJ2
                      have hho := hJ2.1 (13 + x2_17) (by omega)
                      rw [hp2, if_neg (by omega), if_pos rfl] at hho
                      have hho1 := hm_ho hsw.2.2.1 (show 13 + x2_17 < 34 by omega)
                      have hcl2 := hcl.sent hJ2.2.1
                      refine lv_ladd hx hb d_Model_order_127 ?_
                      refine lv_lstore (lv' := [(5, .long (x5_99 + y124.1)), (0, .ref (aM 0)), (1, .int (nI x1_2)), (2, .int (nI x2_17)), (3, .int (nI (((34 * (1 + x1_2)) + 13) + x2_17))), (4, .int (nI (((34 * (13 + x2_17)) + 1) + x1_2))), (7, .long (LM14 (((34 * (1 + x1_2)) + 13) + x2_17)))]) hx hb d_Model_order_128 hl (by decide) rfl (fun ls hl => ?_)
                      refine lv_aload_n hx hb d_Model_order_130 rfl (lv_at hl 1 rfl) ?_
                      refine lv_bipush (v := nI 13) hx hb d_Model_order_131 (by decide) ?_
                      refine lv_iload_n hx hb d_Model_order_133 rfl (lv_at hl 3 rfl) ?_
                      refine hw_iadd hx hb d_Model_order_134 ?_
                      obtain ⟨y135, hy135, hR⟩ := hw_bind hR
                      have hM := c_Model_measure l dC dI cI cJ cZ H.size aM VM0 VM1 VM2 VM3 VM4 VM5 WM0 NM0 NM1 NM2 LM0 LM1 LM2 LM3 LM4 LM5 LM6 LM7 LM8 LM9 LM10 LM11 LM12_17 y124.2 LM14 LM15_99 IM0 IM1 IM2 IM3_99 (13 + x2_17) (by first | assumption | omega) hm_mu (hm_Iv _ LM14 pi (13 + x2_17)) (fun _ _ _ _ => hm_relax hsw.1 hsw.2.1 hsw.pb (by omega)) (fun far bef h _ => hm_init (by omega) far bef h)
                      rw [hy135] at hM
                      refine hw_callVv (As := [.int (nI (13 + x2_17))]) (rest := []) (wr := ([] : va_W)) ⟨hx, hb, hml, hown, hG⟩ hM (hw_cwV 1 hG m_781 m_783 mp_27 m_7 m_784 rfl rfl (by decide +kernel) ⟨Nat.le_of_ble_eq_true rfl, Nat.le_of_ble_eq_true rfl⟩) hK hP hD hS hA [0, 1, 2, 3, 4, 5, 6, 7, 8, 9, 10, 11, 12, 13, 14, 15, 16, 17, 18, 19, 20, 21, 22, 23] [] rfl rfl (by decide) (by decide) (by decide) (hw_recv hK hP 0 rfl rfl) rfl hl.1 rfl (Nat.le_of_ble_eq_true rfl) d_Model_order_135 ⟨Nat.le_of_ble_eq_true rfl, Nat.le_of_ble_eq_true rfl⟩ (fun H locs hP hD hS => ?_)
                      have hP : va_P (dC, dI) vwCl (w_M cI cJ cZ aM VM0 VM1 VM2 VM3 VM4 VM5 WM0 NM0 NM1 NM2 LM0 LM1 LM2 LM3 LM4 LM5 LM6 LM7 LM8 LM9 LM10 LM11 LM12_17 y124.2 LM14 y135.1 IM0 IM1 IM2 y135.2) H := hP
                      have hD : va_D A (w_M cI cJ cZ aM VM0 VM1 VM2 VM3 VM4 VM5 WM0 NM0 NM1 NM2 LM0 LM1 LM2 LM3 LM4 LM5 LM6 LM7 LM8 LM9 LM10 LM11 LM12_17 y124.2 LM14 y135.1 IM0 IM1 IM2 y135.2) := hD
                      have hgd2 := hm_measure hsw.1 hsw.2.1 hsw.pb (show 13 + x2_17 < 34 by omega) LM15_99 IM3_99
                      rw [hy135] at hgd2
                      refine lv_goto (tgt := 99) hx hb d_Model_order_138 (by decide) ?_
                      rw [hrec_99] at hR
                      exact ih_99 (x5_99 + y124.1) y124.2 y135.1 y135.2 (by exact hsw) (by exact hgd2) (by exact hcl2) (by omega) H locs hP hD hS ls (lv_sub hl [1, 2, 3, 4, 5, 0, 6] rfl) hR
                exact L_99 100000000000000000000 (LM13_17 (((34 * (13 + x2_17)) + 1) + x1_2)) (vp_updL (vp_updL LM13_17 (((34 * (1 + x1_2)) + 13) + x2_17) 0) (((34 * (13 + x2_17)) + 1) + x1_2) 0) y96.1 y96.2 (by first | assumption | omega | exact hw_upb (by assumption) (by omega)) (by exact hgd0) (by first | assumption | omega | exact hw_upb (by assumption) (by omega)) (by omega) H locs hP hD hS ls (lv_sub hl [4, 5, 6, 3, 2, 1, 0] rfl) hR
        exact L_17 9 0 LM12_2 LM13_2 LM15_2 IM3_2 (by first | assumption | omega | exact hw_upb (by assumption) (by omega)) (by first | assumption | omega | exact hw_upb (by assumption) (by omega)) (by first | assumption | omega | exact hw_upb (by assumption) (by omega)) (by omega) H locs hP hD hS ls (lv_sub hl [1, 2, 0] rfl) hR
  exact L_2 13 0 LM12 LM13 LM15 IM3 (by first | assumption | omega | exact hw_upb (by assumption) (by omega)) (by first | assumption | omega | exact hw_upb (by assumption) (by omega)) (by first | assumption | omega | exact hw_upb (by assumption) (by omega)) (by omega) H locs hP hD hS ls (lv_sub hl [1, 0] rfl) hR
