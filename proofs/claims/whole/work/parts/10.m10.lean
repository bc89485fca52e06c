abbrev wld_X10_common (cI cJ cZ : ClassId) : va_W := []
abbrev q_X10_common (dC : Nat → ClassId) (dI : Nat → Nat → Nat) (cI cJ cZ : ClassId) (post : Int64 → Prop) (A : Nat → Prop) : Array Value → State → Outcome → State → Prop := va_Ql (fun r (u : Unit) => post r ) (fun (u : Unit) t => xPost (dC, dI) A (wld_X10_common cI cJ cZ) t) A
def w_X10_common_L28b  (post : Int64 → Prop) (K : (Int64) → (Int64) → Prop) (rec : (Int64) → (Int64) → Prop) (v4 : Int64) (v6 : Int64) : Prop :=
    ((lg_cmp v6 (0 : Int64)) = 0 →
      K v4 v6) ∧
    (¬ (lg_cmp v6 (0 : Int64)) = 0 →
      ¬ v6 = 0 ∧
      ∀ x7 : Int64, x7 = (v4 - v4 / v6 * v6) →
      rec v6 x7)
def w_X10_common_L28  (post : Int64 → Prop) (K : (Int64) → (Int64) → Prop) : Nat → (Int64) → (Int64) → Prop
  | 0, _, _ => False
  | n + 1, v4, v6 => w_X10_common_L28b  post K (w_X10_common_L28  post K n) v4 v6
def w_X10_common (a0 : Int64) (a1 : Int64) (post : Int64 → Prop) : Prop :=
  (0 ≤ (lg_cmp a0 (0 : Int64)) →
    (0 ≤ (lg_cmp a1 (0 : Int64)) →
      ∃ n : Nat, w_X10_common_L28  post (fun v9 v10 =>
          (post v9)) n a0 a1) ∧
    (¬ 0 ≤ (lg_cmp a1 (0 : Int64)) →
      ∀ x11 : Int64, x11 = (-a1) →
      ∃ n : Nat, w_X10_common_L28  post (fun v13 v14 =>
          (post v13)) n a0 x11)) ∧
  (¬ 0 ≤ (lg_cmp a0 (0 : Int64)) →
    ∀ x15 : Int64, x15 = (-a0) →
    (0 ≤ (lg_cmp a1 (0 : Int64)) →
      ∃ n : Nat, w_X10_common_L28  post (fun v19 v20 =>
          (post v19)) n x15 a1) ∧
    (¬ 0 ≤ (lg_cmp a1 (0 : Int64)) →
      ∀ x21 : Int64, x21 = (-a1) →
      ∃ n : Nat, w_X10_common_L28  post (fun v23 v24 =>
          (post v23)) n x15 x21))
set_option maxHeartbeats 4000000 in
set_option maxRecDepth 100000 in
theorem c_X10_common_L28 {p : Program} {l : Launch} {e : Env} {s : State} {m : MethodId} {args : Array Value} {below : List Frame} {meth : Method} {c : Code} {dC : Nat → ClassId} {dI : Nat → Nat → Nat} {A : Nat → Prop} {cI cJ cZ : ClassId}  {post : Int64 → Prop} {K : (Int64) → (Int64) → Prop} (E0 : xEnv p s m args meth c cX10_common (some .long) 10 RX10 wsX10_common (dC, dI) cI cJ cZ A) (hk : ∀ (v4 : Int64) (v6 : Int64) (H : Heap) (locs : List Loc) (ls : Array Slot), K v4 v6 → va_P (dC, dI) vwCl (wld_X10_common cI cJ cZ) H → va_D A (wld_X10_common cI cJ cZ) → va_S A s.heap H locs → lv_has ls 10 [(4, .long v4)] → W p l e ({ frames := 0, cells := 0, slots := 0, locals := 0 }) s m args below meth c H locs 0 0 (MQ below (q_X10_common dC dI cI cJ cZ post A) args s 0 0 A) (F0 m 53 ls [])) : ∀ (n : Nat) (v4 : Int64) (v6 : Int64), w_X10_common_L28  post K n v4 v6 → ∀ (H : Heap) (locs : List Loc) (ls : Array Slot), va_P (dC, dI) vwCl (wld_X10_common cI cJ cZ) H → va_D A (wld_X10_common cI cJ cZ) → va_S A s.heap H locs → lv_has ls 10 [(4, .long v4), (6, .long v6)] → W p l e ({ frames := 0, cells := 0, slots := 0, locals := 0 }) s m args below meth c H locs 0 0 (MQ below (q_X10_common dC dI cI cJ cZ post A) args s 0 0 A) (F0 m 28 ls []) := by
  obtain ⟨hx, hb, hr, hml, hown, hts, hlocks, hK, hA, n1, n2⟩ := id E0
  intro n
  induction n with
  | zero => intro v4 v6 hw; exact hw.elim
  | succ n ih =>
    intro v4 v6 hw H locs ls hP hD hS hl
    have hw : w_X10_common_L28b  post K (w_X10_common_L28  post K n) v4 v6 := hw
    unfold w_X10_common_L28b at hw
    refine lv_lload hx hb dX10_common_28 (lv_at hl 1 rfl) ?_
    refine lv_lconst (v := 0) hx hb dX10_common_30 (by decide) ?_
    refine W.lcmp hx hb dX10_common_31 ?_
    refine lv_if_eq (tgt := 53) hx hb dX10_common_32 (by decide) (fun c5 => ?_) (fun c6 => ?_)
    · have hw := hw.1 c5
      exact hk _ _ _ _ _ hw hP hD hS (lv_sub hl [0] rfl)
    · have hw := hw.2 c6
      refine lv_lload hx hb dX10_common_35 (lv_at hl 0 rfl) ?_
      refine lv_lload hx hb dX10_common_37 (lv_at hl 1 rfl) ?_
      refine lv_lrem hx hb dX10_common_39 hw.1 ?_
      have hw := hw.2
      refine lv_topl (fun x7 ex7 => ?_)
      have hw := hw x7 ex7
      refine lv_lstore (lv' := [(8, .long x7), (4, .long v4), (6, .long v6)]) hx hb dX10_common_40 hl (by decide) rfl (fun ls hl => ?_)
      refine lv_lload hx hb dX10_common_42 (lv_at hl 2 rfl) ?_
      refine lv_lstore (lv' := [(4, .long v6), (8, .long x7), (6, .long v6)]) hx hb dX10_common_44 hl (by decide) rfl (fun ls hl => ?_)
      refine lv_lload hx hb dX10_common_46 (lv_at hl 1 rfl) ?_
      refine lv_lstore (lv' := [(6, .long x7), (4, .long v6), (8, .long x7)]) hx hb dX10_common_48 hl (by decide) rfl (fun ls hl => ?_)
      refine lv_goto (tgt := 28) hx hb dX10_common_50 (by decide) ?_
      exact ih _ _ hw _ _ _ hP hD hS (lv_sub hl [1, 0] rfl)
set_option maxHeartbeats 4000000 in
set_option maxRecDepth 100000 in
theorem c_X10_common {l : Launch} {dC : Nat → ClassId} {dI : Nat → Nat → Nat} {sz : Nat} {cI cJ cZ : ClassId} {a0 : Int64} {a1 : Int64} {post : Int64 → Prop} (hw : w_X10_common a0 a1 post) : Met l yX10_common wsX10_common ({ frames := 0, cells := 0, slots := 0, locals := 0 }) (va_Pc [.long a0, .long a1] (xPre (dC, dI) cI cJ cZ (wld_X10_common cI cJ cZ) sz)) (q_X10_common dC dI cI cJ cZ post (va_A (wld_X10_common cI cJ cZ) sz)) 0 0 (va_A (wld_X10_common cI cJ cZ) sz) := by
  refine x_met (cc := cX10_common) (maxL := 10) (ret := (some .long)) (own := RX10) (Qc := fun A => (q_X10_common dC dI cI cJ cZ post A)) (by decide) rfl rfl (Nat.le_of_ble_eq_true rfl) ?_
  intro p e s m args below meth c A ls E0 hP hD hS hl
  obtain ⟨hx, hb, hr, hml, hown, hts, hlocks, hK, hA, n1, n2⟩ := id E0
  have hS0 := hS
  have hl : lv_has ls 10 [(0, .long a0), (2, .long a1)] := hl
  unfold w_X10_common at hw
  obtain ⟨H, hH⟩ : ∃ H, H = s.heap := ⟨_, rfl⟩
  have hS : va_S A s.heap H [] := by rw [hH]; exact hS
  have hP : va_P (dC, dI) vwCl (wld_X10_common cI cJ cZ) H := by rw [hH]; exact hP
  suffices hG : W p l e ({ frames := 0, cells := 0, slots := 0, locals := 0 }) s m args below meth c H [] 0 0 (MQ below (q_X10_common dC dI cI cJ cZ post A) args s 0 0 A) (F0 m 0 ls []) by rw [hH] at hG; exact hG
  clear hH
  refine lv_lload_n hx hb dX10_common_0 rfl (lv_at hl 0 rfl) ?_
  refine lv_lconst (v := 0) hx hb dX10_common_1 (by decide) ?_
  refine W.lcmp hx hb dX10_common_2 ?_
  refine lv_if_ge (tgt := 11) hx hb dX10_common_3 (by decide) (fun c1 => ?_) (fun c2 => ?_)
  · have hw := hw.1 c1
    refine lv_lload_n hx hb dX10_common_11 rfl (lv_at hl 0 rfl) ?_
    refine lv_lstore (lv' := [(4, .long a0), (0, .long a0), (2, .long a1)]) hx hb dX10_common_12 hl (by decide) rfl (fun ls hl => ?_)
    refine lv_lload_n hx hb dX10_common_14 rfl (lv_at hl 2 rfl) ?_
    refine lv_lconst (v := 0) hx hb dX10_common_15 (by decide) ?_
    refine W.lcmp hx hb dX10_common_16 ?_
    refine lv_if_ge (tgt := 25) hx hb dX10_common_17 (by decide) (fun c3 => ?_) (fun c4 => ?_)
    · have hw := hw.1 c3
      refine lv_lload_n hx hb dX10_common_25 rfl (lv_at hl 2 rfl) ?_
      refine lv_lstore (lv' := [(6, .long a1), (4, .long a0), (0, .long a0), (2, .long a1)]) hx hb dX10_common_26 hl (by decide) rfl (fun ls hl => ?_)
      obtain ⟨n8, hw⟩ := hw
      refine c_X10_common_L28 (l := l)  E0 ?_ n8 _ _ hw _ _ _ hP hD hS (lv_sub hl [1, 0] rfl)
      · intro v9 v10 H locs ls hw hP hD hS hl
        have hP : va_P (dC, dI) vwCl (wld_X10_common cI cJ cZ) H := hP
        have hD : va_D A (wld_X10_common cI cJ cZ) := hD
        refine lv_lload hx hb dX10_common_53 (lv_at hl 0 rfl) ?_
        exact x_lret (w1 := fun (u : Unit) => (wld_X10_common cI cJ cZ)) hx hb hr hlocks () hw hP hD hS dX10_common_55
    · have hw := hw.2 c4
      refine lv_lload_n hx hb dX10_common_20 rfl (lv_at hl 2 rfl) ?_
      refine lv_lneg hx hb dX10_common_21 ?_
      refine lv_goto (tgt := 26) hx hb dX10_common_22 (by decide) ?_
      refine lv_topl (fun x11 ex11 => ?_)
      have hw := hw x11 ex11
      refine lv_lstore (lv' := [(6, .long x11), (4, .long a0), (0, .long a0), (2, .long a1)]) hx hb dX10_common_26 hl (by decide) rfl (fun ls hl => ?_)
      obtain ⟨n12, hw⟩ := hw
      refine c_X10_common_L28 (l := l)  E0 ?_ n12 _ _ hw _ _ _ hP hD hS (lv_sub hl [1, 0] rfl)
      · intro v13 v14 H locs ls hw hP hD hS hl
        have hP : va_P (dC, dI) vwCl (wld_X10_common cI cJ cZ) H := hP
        have hD : va_D A (wld_X10_common cI cJ cZ) := hD
        refine lv_lload hx hb dX10_common_53 (lv_at hl 0 rfl) ?_
        exact x_lret (w1 := fun (u : Unit) => (wld_X10_common cI cJ cZ)) hx hb hr hlocks () hw hP hD hS dX10_common_55
  · have hw := hw.2 c2
    refine lv_lload_n hx hb dX10_common_6 rfl (lv_at hl 0 rfl) ?_
    refine lv_lneg hx hb dX10_common_7 ?_
    refine lv_goto (tgt := 12) hx hb dX10_common_8 (by decide) ?_
    refine lv_topl (fun x15 ex15 => ?_)
    have hw := hw x15 ex15
    refine lv_lstore (lv' := [(4, .long x15), (0, .long a0), (2, .long a1)]) hx hb dX10_common_12 hl (by decide) rfl (fun ls hl => ?_)
    refine lv_lload_n hx hb dX10_common_14 rfl (lv_at hl 2 rfl) ?_
    refine lv_lconst (v := 0) hx hb dX10_common_15 (by decide) ?_
    refine W.lcmp hx hb dX10_common_16 ?_
    refine lv_if_ge (tgt := 25) hx hb dX10_common_17 (by decide) (fun c16 => ?_) (fun c17 => ?_)
    · have hw := hw.1 c16
      refine lv_lload_n hx hb dX10_common_25 rfl (lv_at hl 2 rfl) ?_
      refine lv_lstore (lv' := [(6, .long a1), (4, .long x15), (0, .long a0), (2, .long a1)]) hx hb dX10_common_26 hl (by decide) rfl (fun ls hl => ?_)
      obtain ⟨n18, hw⟩ := hw
      refine c_X10_common_L28 (l := l)  E0 ?_ n18 _ _ hw _ _ _ hP hD hS (lv_sub hl [1, 0] rfl)
      · intro v19 v20 H locs ls hw hP hD hS hl
        have hP : va_P (dC, dI) vwCl (wld_X10_common cI cJ cZ) H := hP
        have hD : va_D A (wld_X10_common cI cJ cZ) := hD
        refine lv_lload hx hb dX10_common_53 (lv_at hl 0 rfl) ?_
        exact x_lret (w1 := fun (u : Unit) => (wld_X10_common cI cJ cZ)) hx hb hr hlocks () hw hP hD hS dX10_common_55
    · have hw := hw.2 c17
      refine lv_lload_n hx hb dX10_common_20 rfl (lv_at hl 2 rfl) ?_
      refine lv_lneg hx hb dX10_common_21 ?_
      refine lv_goto (tgt := 26) hx hb dX10_common_22 (by decide) ?_
      refine lv_topl (fun x21 ex21 => ?_)
      have hw := hw x21 ex21
      refine lv_lstore (lv' := [(6, .long x21), (4, .long x15), (0, .long a0), (2, .long a1)]) hx hb dX10_common_26 hl (by decide) rfl (fun ls hl => ?_)
      obtain ⟨n22, hw⟩ := hw
      refine c_X10_common_L28 (l := l)  E0 ?_ n22 _ _ hw _ _ _ hP hD hS (lv_sub hl [1, 0] rfl)
      · intro v23 v24 H locs ls hw hP hD hS hl
        have hP : va_P (dC, dI) vwCl (wld_X10_common cI cJ cZ) H := hP
        have hD : va_D A (wld_X10_common cI cJ cZ) := hD
        refine lv_lload hx hb dX10_common_53 (lv_at hl 0 rfl) ?_
        exact x_lret (w1 := fun (u : Unit) => (wld_X10_common cI cJ cZ)) hx hb hr hlocks () hw hP hD hS dX10_common_55
abbrev wld_X10_lessened (cI cJ cZ : ClassId) (h_p0 : Nat) (ad_p0 : Nat → Nat) (p0_places : Int32) (p0_steps : Int32) (p0_pastFirst : Int32) (p0_past : Int32) (p0_goings : Int32) (p0_rowSize : Int32) (p0_ways : Int32) (p0_hasField : Int32) (p0_fieldSize : Int32) (p0_faultNow : Int32) (p0_hasTree : Int32) (p0_treeSize : Int32) (p0_weightCount : Int32) (p0_roundCount : Int32) (p0_setCount : Int32) (p0_rows : Nat → Int64) : va_W := [(h_p0, .inr (10, [.int p0_places, .int p0_steps, .ref (ad_p0 2), .ref (ad_p0 3), .ref (ad_p0 4), .ref (ad_p0 5), .ref (ad_p0 6), .ref (ad_p0 7), .ref (ad_p0 8), .ref (ad_p0 9), .ref (ad_p0 10), .ref (ad_p0 11), .ref (ad_p0 12), .ref (ad_p0 13), .ref (ad_p0 14), .int p0_pastFirst, .int p0_past, .int p0_goings, .int p0_rowSize, .ref (ad_p0 19), .ref (ad_p0 20), .int p0_ways, .ref (ad_p0 22), .ref (ad_p0 23), .int p0_hasField, .int p0_fieldSize, .ref (ad_p0 26), .ref (ad_p0 27), .ref (ad_p0 28), .ref (ad_p0 29), .ref (ad_p0 30), .ref (ad_p0 31), .ref (ad_p0 32), .int p0_faultNow, .int p0_hasTree, .int p0_treeSize, .ref (ad_p0 36), .ref (ad_p0 37), .ref (ad_p0 38), .ref (ad_p0 39), .ref (ad_p0 40), .ref (ad_p0 41), .ref (ad_p0 42), .int p0_weightCount, .ref (ad_p0 44), .int p0_roundCount, .ref (ad_p0 46), .int p0_setCount, .ref (ad_p0 48), .ref (ad_p0 49)])), ((ad_p0 40), .inl (cJ, 512, .inr (.inl p0_rows)))]
abbrev q_X10_lessened (dC : Nat → ClassId) (dI : Nat → Nat → Nat) (cI cJ cZ : ClassId) (h_p0 : Nat) (ad_p0 : Nat → Nat) (p0_places : Int32) (p0_steps : Int32) (p0_pastFirst : Int32) (p0_past : Int32) (p0_goings : Int32) (p0_rowSize : Int32) (p0_ways : Int32) (p0_hasField : Int32) (p0_fieldSize : Int32) (p0_faultNow : Int32) (p0_hasTree : Int32) (p0_treeSize : Int32) (p0_weightCount : Int32) (p0_roundCount : Int32) (p0_setCount : Int32) (p0_rows : Nat → Int64) (post : Int32 → (Nat → Int64) → Prop) (A : Nat → Prop) : Array Value → State → Outcome → State → Prop := va_Qi (fun r (u : (Nat → Int64)) => post r u) (fun (u : (Nat → Int64)) t => xPost (dC, dI) A (wld_X10_lessened cI cJ cZ h_p0 ad_p0 p0_places p0_steps p0_pastFirst p0_past p0_goings p0_rowSize p0_ways p0_hasField p0_fieldSize p0_faultNow p0_hasTree p0_treeSize p0_weightCount p0_roundCount p0_setCount u) t) A
def w_X10_lessened_L32b (v1 : Int32) (v2 : Int32) (v4 : Int64) (v6 : Int64) (post : Int32 → (Nat → Int64) → Prop) (K : (Int64) → (Int32) → (Nat → Int64) → Prop) (rec : (Int64) → (Int32) → (Nat → Int64) → Prop) (v8 : Int64) (v10 : Int32) (p0_rows : Nat → Int64) : Prop :=
    ((32 : Int32) ≤ v10 →
      K v8 v10 p0_rows) ∧
    (¬ (32 : Int32) ≤ v10 →
      vp_in (((32 : Int32) * v1) + v10) 512 ∧
      vp_in (((32 : Int32) * v2) + v10) 512 ∧
      vp_in (((32 : Int32) * v1) + v10) 512 ∧
      vp_in (((32 : Int32) * v1) + v10) 512 ∧
      w_X10_common v8 ((vp_updL p0_rows (((32 : Int32) * v1) + v10).toNatClampNeg ((v4 * (p0_rows (((32 : Int32) * v1) + v10).toNatClampNeg)) - (v6 * (p0_rows (((32 : Int32) * v2) + v10).toNatClampNeg)))) (((32 : Int32) * v1) + v10).toNatClampNeg) (fun r5 =>
      ∀ x6 : Int32, x6 = v10 + (1 : Int32) →
      rec r5 x6 (vp_updL p0_rows (((32 : Int32) * v1) + v10).toNatClampNeg ((v4 * (p0_rows (((32 : Int32) * v1) + v10).toNatClampNeg)) - (v6 * (p0_rows (((32 : Int32) * v2) + v10).toNatClampNeg))))))
def w_X10_lessened_L32 (v1 : Int32) (v2 : Int32) (v4 : Int64) (v6 : Int64) (post : Int32 → (Nat → Int64) → Prop) (K : (Int64) → (Int32) → (Nat → Int64) → Prop) : Nat → (Int64) → (Int32) → (Nat → Int64) → Prop
  | 0, _, _, _ => False
  | n + 1, v8, v10, p0_rows => w_X10_lessened_L32b v1 v2 v4 v6 post K (w_X10_lessened_L32 v1 v2 v4 v6 post K n) v8 v10 p0_rows
def w_X10_lessened_L113b (v1 : Int32) (v8 : Int64) (post : Int32 → (Nat → Int64) → Prop) (K : (Int32) → (Int32) → (Nat → Int64) → Prop) (rec : (Int32) → (Int32) → (Nat → Int64) → Prop) (v10 : Int32) (v11 : Int32) (p0_rows : Nat → Int64) : Prop :=
    ((32 : Int32) ≤ v11 →
      K v10 v11 p0_rows) ∧
    (¬ (32 : Int32) ≤ v11 →
      (¬ (lg_cmp v8 (0 : Int64)) = 0 →
        vp_in (((32 : Int32) * v1) + v11) 512 ∧
        ¬ v8 = 0 ∧
        vp_in (((32 : Int32) * v1) + v11) 512 ∧
        (v10 = 0 →
          ∀ x17 : Int32, x17 = v11 + (1 : Int32) →
          rec (0 : Int32) x17 (vp_updL p0_rows (((32 : Int32) * v1) + v11).toNatClampNeg ((p0_rows (((32 : Int32) * v1) + v11).toNatClampNeg) / v8))) ∧
        (¬ v10 = 0 →
          vp_in (((32 : Int32) * v1) + v11) 512 ∧
          (0 < (lg_cmp ((vp_updL p0_rows (((32 : Int32) * v1) + v11).toNatClampNeg ((p0_rows (((32 : Int32) * v1) + v11).toNatClampNeg) / v8)) (((32 : Int32) * v1) + v11).toNatClampNeg) (1000000000 : Int64)) →
            ∀ x20 : Int32, x20 = v11 + (1 : Int32) →
            rec (0 : Int32) x20 (vp_updL p0_rows (((32 : Int32) * v1) + v11).toNatClampNeg ((p0_rows (((32 : Int32) * v1) + v11).toNatClampNeg) / v8))) ∧
          (¬ 0 < (lg_cmp ((vp_updL p0_rows (((32 : Int32) * v1) + v11).toNatClampNeg ((p0_rows (((32 : Int32) * v1) + v11).toNatClampNeg) / v8)) (((32 : Int32) * v1) + v11).toNatClampNeg) (1000000000 : Int64)) →
            vp_in (((32 : Int32) * v1) + v11) 512 ∧
            ((lg_cmp ((vp_updL p0_rows (((32 : Int32) * v1) + v11).toNatClampNeg ((p0_rows (((32 : Int32) * v1) + v11).toNatClampNeg) / v8)) (((32 : Int32) * v1) + v11).toNatClampNeg) (-1000000000 : Int64)) < 0 →
              ∀ x23 : Int32, x23 = v11 + (1 : Int32) →
              rec (0 : Int32) x23 (vp_updL p0_rows (((32 : Int32) * v1) + v11).toNatClampNeg ((p0_rows (((32 : Int32) * v1) + v11).toNatClampNeg) / v8))) ∧
            (¬ (lg_cmp ((vp_updL p0_rows (((32 : Int32) * v1) + v11).toNatClampNeg ((p0_rows (((32 : Int32) * v1) + v11).toNatClampNeg) / v8)) (((32 : Int32) * v1) + v11).toNatClampNeg) (-1000000000 : Int64)) < 0 →
              ∀ x24 : Int32, x24 = v11 + (1 : Int32) →
              rec (1 : Int32) x24 (vp_updL p0_rows (((32 : Int32) * v1) + v11).toNatClampNeg ((p0_rows (((32 : Int32) * v1) + v11).toNatClampNeg) / v8)))))) ∧
      ((lg_cmp v8 (0 : Int64)) = 0 →
        vp_in (((32 : Int32) * v1) + v11) 512 ∧
        (v10 = 0 →
          ∀ x27 : Int32, x27 = v11 + (1 : Int32) →
          rec (0 : Int32) x27 (vp_updL p0_rows (((32 : Int32) * v1) + v11).toNatClampNeg (0 : Int64))) ∧
        (¬ v10 = 0 →
          vp_in (((32 : Int32) * v1) + v11) 512 ∧
          (0 < (lg_cmp ((vp_updL p0_rows (((32 : Int32) * v1) + v11).toNatClampNeg (0 : Int64)) (((32 : Int32) * v1) + v11).toNatClampNeg) (1000000000 : Int64)) →
            ∀ x30 : Int32, x30 = v11 + (1 : Int32) →
            rec (0 : Int32) x30 (vp_updL p0_rows (((32 : Int32) * v1) + v11).toNatClampNeg (0 : Int64))) ∧
          (¬ 0 < (lg_cmp ((vp_updL p0_rows (((32 : Int32) * v1) + v11).toNatClampNeg (0 : Int64)) (((32 : Int32) * v1) + v11).toNatClampNeg) (1000000000 : Int64)) →
            vp_in (((32 : Int32) * v1) + v11) 512 ∧
            ((lg_cmp ((vp_updL p0_rows (((32 : Int32) * v1) + v11).toNatClampNeg (0 : Int64)) (((32 : Int32) * v1) + v11).toNatClampNeg) (-1000000000 : Int64)) < 0 →
              ∀ x33 : Int32, x33 = v11 + (1 : Int32) →
              rec (0 : Int32) x33 (vp_updL p0_rows (((32 : Int32) * v1) + v11).toNatClampNeg (0 : Int64))) ∧
            (¬ (lg_cmp ((vp_updL p0_rows (((32 : Int32) * v1) + v11).toNatClampNeg (0 : Int64)) (((32 : Int32) * v1) + v11).toNatClampNeg) (-1000000000 : Int64)) < 0 →
              ∀ x34 : Int32, x34 = v11 + (1 : Int32) →
              rec (1 : Int32) x34 (vp_updL p0_rows (((32 : Int32) * v1) + v11).toNatClampNeg (0 : Int64)))))))
def w_X10_lessened_L113 (v1 : Int32) (v8 : Int64) (post : Int32 → (Nat → Int64) → Prop) (K : (Int32) → (Int32) → (Nat → Int64) → Prop) : Nat → (Int32) → (Int32) → (Nat → Int64) → Prop
  | 0, _, _, _ => False
  | n + 1, v10, v11, p0_rows => w_X10_lessened_L113b v1 v8 post K (w_X10_lessened_L113 v1 v8 post K n) v10 v11 p0_rows
def w_X10_lessened (p0_rows : Nat → Int64) (a1 : Int32) (a2 : Int32) (a3 : Int32) (post : Int32 → (Nat → Int64) → Prop) : Prop :=
  vp_in (((32 : Int32) * a2) + a3) 512 ∧
  ∀ x1 : Int64, x1 = (p0_rows (((32 : Int32) * a2) + a3).toNatClampNeg) →
  vp_in (((32 : Int32) * a1) + a3) 512 ∧
  ∀ x2 : Int64, x2 = (p0_rows (((32 : Int32) * a1) + a3).toNatClampNeg) →
  ∃ n : Nat, w_X10_lessened_L32 a1 a2 x1 x2 post (fun v8 v9 s10 =>
      ∃ n : Nat, w_X10_lessened_L113 a1 v8 post (fun v36 v37 s38 =>
          v36 &&& 1 = v36 ∧
          (post v36 s38)) n (1 : Int32) (0 : Int32) s10) n (0 : Int64) (0 : Int32) p0_rows
set_option maxHeartbeats 4000000 in
set_option maxRecDepth 100000 in
theorem c_X10_lessened_L32 {p : Program} {l : Launch} {e : Env} {s : State} {m : MethodId} {args : Array Value} {below : List Frame} {meth : Method} {c : Code} {dC : Nat → ClassId} {dI : Nat → Nat → Nat} {A : Nat → Prop} {cI cJ cZ : ClassId} {h_p0 : Nat} {ad_p0 : Nat → Nat} {p0_places : Int32} {p0_steps : Int32} {p0_pastFirst : Int32} {p0_past : Int32} {p0_goings : Int32} {p0_rowSize : Int32} {p0_ways : Int32} {p0_hasField : Int32} {p0_fieldSize : Int32} {p0_faultNow : Int32} {p0_hasTree : Int32} {p0_treeSize : Int32} {p0_weightCount : Int32} {p0_roundCount : Int32} {p0_setCount : Int32} {v1 : Int32} {v2 : Int32} {v4 : Int64} {v6 : Int64} {z_p0_rows : Nat → Int64} {post : Int32 → (Nat → Int64) → Prop} {K : (Int64) → (Int32) → (Nat → Int64) → Prop} (E0 : xEnv p s m args meth c cX10_lessened (some .boolean) 12 RX10 wsX10_lessened (dC, dI) cI cJ cZ A) (hk : ∀ (v8 : Int64) (v10 : Int32) (p0_rows : Nat → Int64) (H : Heap) (locs : List Loc) (ls : Array Slot), K v8 v10 p0_rows → va_P (dC, dI) vwCl (wld_X10_lessened cI cJ cZ h_p0 ad_p0 p0_places p0_steps p0_pastFirst p0_past p0_goings p0_rowSize p0_ways p0_hasField p0_fieldSize p0_faultNow p0_hasTree p0_treeSize p0_weightCount p0_roundCount p0_setCount p0_rows) H → va_D A (wld_X10_lessened cI cJ cZ h_p0 ad_p0 p0_places p0_steps p0_pastFirst p0_past p0_goings p0_rowSize p0_ways p0_hasField p0_fieldSize p0_faultNow p0_hasTree p0_treeSize p0_weightCount p0_roundCount p0_setCount p0_rows) → va_S A s.heap H locs → lv_has ls 12 [(0, .ref h_p0), (1, .int v1), (8, .long v8)] → W p l e ({ frames := 1, cells := 0, slots := 0, locals := 29 }) s m args below meth c H locs 0 0 (MQ below (q_X10_lessened dC dI cI cJ cZ h_p0 ad_p0 p0_places p0_steps p0_pastFirst p0_past p0_goings p0_rowSize p0_ways p0_hasField p0_fieldSize p0_faultNow p0_hasTree p0_treeSize p0_weightCount p0_roundCount p0_setCount z_p0_rows post A) args s 0 0 A) (F0 m 107 ls [])) : ∀ (n : Nat) (v8 : Int64) (v10 : Int32) (p0_rows : Nat → Int64), w_X10_lessened_L32 v1 v2 v4 v6 post K n v8 v10 p0_rows → ∀ (H : Heap) (locs : List Loc) (ls : Array Slot), va_P (dC, dI) vwCl (wld_X10_lessened cI cJ cZ h_p0 ad_p0 p0_places p0_steps p0_pastFirst p0_past p0_goings p0_rowSize p0_ways p0_hasField p0_fieldSize p0_faultNow p0_hasTree p0_treeSize p0_weightCount p0_roundCount p0_setCount p0_rows) H → va_D A (wld_X10_lessened cI cJ cZ h_p0 ad_p0 p0_places p0_steps p0_pastFirst p0_past p0_goings p0_rowSize p0_ways p0_hasField p0_fieldSize p0_faultNow p0_hasTree p0_treeSize p0_weightCount p0_roundCount p0_setCount p0_rows) → va_S A s.heap H locs → lv_has ls 12 [(0, .ref h_p0), (1, .int v1), (2, .int v2), (4, .long v4), (6, .long v6), (8, .long v8), (10, .int v10)] → W p l e ({ frames := 1, cells := 0, slots := 0, locals := 29 }) s m args below meth c H locs 0 0 (MQ below (q_X10_lessened dC dI cI cJ cZ h_p0 ad_p0 p0_places p0_steps p0_pastFirst p0_past p0_goings p0_rowSize p0_ways p0_hasField p0_fieldSize p0_faultNow p0_hasTree p0_treeSize p0_weightCount p0_roundCount p0_setCount z_p0_rows post A) args s 0 0 A) (F0 m 32 ls []) := by
  obtain ⟨hx, hb, hr, hml, hown, hts, hlocks, hK, hA, n1, n2⟩ := id E0
  have iX10 : ∀ w ∈ u_ws RX10 TX10 50, w ∈ wsX10_lessened := fun w h => List.mem_cons_of_mem _ (List.mem_append_right _ h)
  intro n
  induction n with
  | zero => intro v8 v10 p0_rows hw; exact hw.elim
  | succ n ih =>
    intro v8 v10 p0_rows hw H locs ls hP hD hS hl
    have hw : w_X10_lessened_L32b v1 v2 v4 v6 post K (w_X10_lessened_L32 v1 v2 v4 v6 post K n) v8 v10 p0_rows := hw
    unfold w_X10_lessened_L32b at hw
    refine lv_iload hx hb dX10_lessened_32 (lv_at hl 6 rfl) ?_
    refine lv_bipush (v := 32) hx hb dX10_lessened_34 (by decide) ?_
    refine lv_icmp_ge (tgt := 107) hx hb dX10_lessened_36 (by decide) (fun c3 => ?_) (fun c4 => ?_)
    · have hw := hw.1 c3
      exact hk _ _ _ _ _ _ hw hP hD hS (lv_sub hl [0, 1, 5] rfl)
    · have hw := hw.2 c4
      refine lv_aload_n hx hb dX10_lessened_39 rfl (lv_at hl 0 rfl) ?_
      refine va_get (D := (dC, dI)) (ci := 10) (v := .ref (ad_p0 40)) (C := RX10) (T := TX10) (N := 50) hx hb hts iX10 hown hK hP 0 rfl rfl 40 (by decide) (hts (.fieldLink RX10 102 "NetHouseModel" "rows" "[J") (by decide +kernel)) (fun _ h9 => h9) rfl dX10_lessened_40 ?_
      refine lv_bipush (v := 32) hx hb dX10_lessened_43 (by decide) ?_
      refine lv_iload_n hx hb dX10_lessened_45 rfl (lv_at hl 1 rfl) ?_
      refine lv_imul hx hb dX10_lessened_46 ?_
      refine lv_iload hx hb dX10_lessened_47 (lv_at hl 6 rfl) ?_
      refine lv_iadd hx hb dX10_lessened_49 ?_
      refine lv_lload hx hb dX10_lessened_50 (lv_at hl 3 rfl) ?_
      refine lv_aload_n hx hb dX10_lessened_52 rfl (lv_at hl 0 rfl) ?_
      refine va_get (D := (dC, dI)) (ci := 10) (v := .ref (ad_p0 40)) (C := RX10) (T := TX10) (N := 50) hx hb hts iX10 hown hK hP 0 rfl rfl 40 (by decide) (hts (.fieldLink RX10 102 "NetHouseModel" "rows" "[J") (by decide +kernel)) (fun _ h9 => h9) rfl dX10_lessened_53 ?_
      refine lv_bipush (v := 32) hx hb dX10_lessened_56 (by decide) ?_
      refine lv_iload_n hx hb dX10_lessened_58 rfl (lv_at hl 1 rfl) ?_
      refine lv_imul hx hb dX10_lessened_59 ?_
      refine lv_iload hx hb dX10_lessened_60 (lv_at hl 6 rfl) ?_
      refine lv_iadd hx hb dX10_lessened_62 ?_
      refine va_lald hx hb hK hP 1 1 rfl rfl hw.1 dX10_lessened_63 ?_
      have hw := hw.2
      refine lv_lmul hx hb dX10_lessened_64 ?_
      refine lv_lload hx hb dX10_lessened_65 (lv_at hl 4 rfl) ?_
      refine lv_aload_n hx hb dX10_lessened_67 rfl (lv_at hl 0 rfl) ?_
      refine va_get (D := (dC, dI)) (ci := 10) (v := .ref (ad_p0 40)) (C := RX10) (T := TX10) (N := 50) hx hb hts iX10 hown hK hP 0 rfl rfl 40 (by decide) (hts (.fieldLink RX10 102 "NetHouseModel" "rows" "[J") (by decide +kernel)) (fun _ h9 => h9) rfl dX10_lessened_68 ?_
      refine lv_bipush (v := 32) hx hb dX10_lessened_71 (by decide) ?_
      refine lv_iload_n hx hb dX10_lessened_73 rfl (lv_at hl 2 rfl) ?_
      refine lv_imul hx hb dX10_lessened_74 ?_
      refine lv_iload hx hb dX10_lessened_75 (lv_at hl 6 rfl) ?_
      refine lv_iadd hx hb dX10_lessened_77 ?_
      refine va_lald hx hb hK hP 1 1 rfl rfl hw.1 dX10_lessened_78 ?_
      have hw := hw.2
      refine lv_lmul hx hb dX10_lessened_79 ?_
      refine lv_lsub hx hb dX10_lessened_80 ?_
      refine va_last hx hb hK hP hD hS 1 1 rfl rfl hw.1 dX10_lessened_81 (fun H locs hP hD hS => ?_)
      have hw := hw.2
      have hP : va_P (dC, dI) vwCl (wld_X10_lessened cI cJ cZ h_p0 ad_p0 p0_places p0_steps p0_pastFirst p0_past p0_goings p0_rowSize p0_ways p0_hasField p0_fieldSize p0_faultNow p0_hasTree p0_treeSize p0_weightCount p0_roundCount p0_setCount (vp_updL p0_rows (((32 : Int32) * v1) + v10).toNatClampNeg ((v4 * (p0_rows (((32 : Int32) * v1) + v10).toNatClampNeg)) - (v6 * (p0_rows (((32 : Int32) * v2) + v10).toNatClampNeg))))) H := hP
      have hD : va_D A (wld_X10_lessened cI cJ cZ h_p0 ad_p0 p0_places p0_steps p0_pastFirst p0_past p0_goings p0_rowSize p0_ways p0_hasField p0_fieldSize p0_faultNow p0_hasTree p0_treeSize p0_weightCount p0_roundCount p0_setCount (vp_updL p0_rows (((32 : Int32) * v1) + v10).toNatClampNeg ((v4 * (p0_rows (((32 : Int32) * v1) + v10).toNatClampNeg)) - (v6 * (p0_rows (((32 : Int32) * v2) + v10).toNatClampNeg))))) := hD
      refine lv_lload hx hb dX10_lessened_82 (lv_at hl 5 rfl) ?_
      refine lv_aload_n hx hb dX10_lessened_84 rfl (lv_at hl 0 rfl) ?_
      refine va_get (D := (dC, dI)) (ci := 10) (v := .ref (ad_p0 40)) (C := RX10) (T := TX10) (N := 50) hx hb hts iX10 hown hK hP 0 rfl rfl 40 (by decide) (hts (.fieldLink RX10 102 "NetHouseModel" "rows" "[J") (by decide +kernel)) (fun _ h9 => h9) rfl dX10_lessened_85 ?_
      refine lv_bipush (v := 32) hx hb dX10_lessened_88 (by decide) ?_
      refine lv_iload_n hx hb dX10_lessened_90 rfl (lv_at hl 1 rfl) ?_
      refine lv_imul hx hb dX10_lessened_91 ?_
      refine lv_iload hx hb dX10_lessened_92 (lv_at hl 6 rfl) ?_
      refine lv_iadd hx hb dX10_lessened_94 ?_
      refine va_lald hx hb hK hP 1 1 rfl rfl hw.1 dX10_lessened_95 ?_
      have hw := hw.2
      obtain ⟨hPc, hDc⟩ := x_sub (wc := (wld_X10_common cI cJ cZ )) hP hD [] (n := 2) rfl rfl (by decide +kernel)
      refine x_calll (ws' := fun (u : Unit) => (wld_X10_lessened cI cJ cZ h_p0 ad_p0 p0_places p0_steps p0_pastFirst p0_past p0_goings p0_rowSize p0_ways p0_hasField p0_fieldSize p0_faultNow p0_hasTree p0_treeSize p0_weightCount p0_roundCount p0_setCount (vp_updL p0_rows (((32 : Int32) * v1) + v10).toNatClampNeg ((v4 * (p0_rows (((32 : Int32) * v1) + v10).toNatClampNeg)) - (v6 * (p0_rows (((32 : Int32) * v2) + v10).toNatClampNeg)))))) hP hD hS hA [] [0, 1] [0, 1] (n := 2) (k := 0) rfl (fun _ => rfl) rfl (by decide +kernel) (fun _ => rfl) (va_runS (As := [.long v8, .long ((vp_updL p0_rows (((32 : Int32) * v1) + v10).toNatClampNeg ((v4 * (p0_rows (((32 : Int32) * v1) + v10).toNatClampNeg)) - (v6 * (p0_rows (((32 : Int32) * v2) + v10).toNatClampNeg)))) (((32 : Int32) * v1) + v10).toNatClampNeg)]) (rest := []) ⟨hx, hb, hml, hown, hts⟩ (c_X10_common (l := l) (dC := dC) (dI := dI) (cI := cI) (cJ := cJ) (cZ := cZ) (sz := H.size) hw) (va_cwS 2 hts gX10_lessened_X10_common rfl rfl rfl (by decide +kernel) ⟨Nat.le_of_ble_eq_true rfl, Nat.le_of_ble_eq_true rfl⟩) ⟨xPre_blind, xPre_at hK hPc hDc n1 n2⟩ rfl rfl hl.1 rfl (lv_room (Nat.le_of_ble_eq_true rfl)) dX10_lessened_96 ⟨Nat.zero_le _, Nat.zero_le _⟩) (fun r5 u H locs hw hP hD hS => ?_)
      try dsimp only at hw
      have hP : va_P (dC, dI) vwCl (wld_X10_lessened cI cJ cZ h_p0 ad_p0 p0_places p0_steps p0_pastFirst p0_past p0_goings p0_rowSize p0_ways p0_hasField p0_fieldSize p0_faultNow p0_hasTree p0_treeSize p0_weightCount p0_roundCount p0_setCount (vp_updL p0_rows (((32 : Int32) * v1) + v10).toNatClampNeg ((v4 * (p0_rows (((32 : Int32) * v1) + v10).toNatClampNeg)) - (v6 * (p0_rows (((32 : Int32) * v2) + v10).toNatClampNeg))))) H := hP
      have hD : va_D A (wld_X10_lessened cI cJ cZ h_p0 ad_p0 p0_places p0_steps p0_pastFirst p0_past p0_goings p0_rowSize p0_ways p0_hasField p0_fieldSize p0_faultNow p0_hasTree p0_treeSize p0_weightCount p0_roundCount p0_setCount (vp_updL p0_rows (((32 : Int32) * v1) + v10).toNatClampNeg ((v4 * (p0_rows (((32 : Int32) * v1) + v10).toNatClampNeg)) - (v6 * (p0_rows (((32 : Int32) * v2) + v10).toNatClampNeg))))) := hD
      refine lv_lstore (lv' := [(8, .long r5), (0, .ref h_p0), (1, .int v1), (2, .int v2), (4, .long v4), (6, .long v6), (10, .int v10)]) hx hb dX10_lessened_99 hl (by decide) rfl (fun ls hl => ?_)
      obtain ⟨x6, ex6⟩ : ∃ y : Int32, y = v10 + (1 : Int32) := ⟨_, rfl⟩
      have hw := hw x6 ex6
      refine lv_iinc (v := x6) (lv' := [(10, .int x6), (8, .long r5), (0, .ref h_p0), (1, .int v1), (2, .int v2), (4, .long v4), (6, .long v6)]) hx hb dX10_lessened_101 hl (k := 6) rfl (by rw [ex6]; rfl) (by decide) rfl (fun ls hl => ?_)
      refine lv_goto (tgt := 32) hx hb dX10_lessened_104 (by decide) ?_
      exact ih _ _ _ hw _ _ _ hP hD hS (lv_sub hl [2, 3, 4, 5, 6, 1, 0] rfl)
set_option maxHeartbeats 4000000 in
set_option maxRecDepth 100000 in
theorem c_X10_lessened_L113 {p : Program} {l : Launch} {e : Env} {s : State} {m : MethodId} {args : Array Value} {below : List Frame} {meth : Method} {c : Code} {dC : Nat → ClassId} {dI : Nat → Nat → Nat} {A : Nat → Prop} {cI cJ cZ : ClassId} {h_p0 : Nat} {ad_p0 : Nat → Nat} {p0_places : Int32} {p0_steps : Int32} {p0_pastFirst : Int32} {p0_past : Int32} {p0_goings : Int32} {p0_rowSize : Int32} {p0_ways : Int32} {p0_hasField : Int32} {p0_fieldSize : Int32} {p0_faultNow : Int32} {p0_hasTree : Int32} {p0_treeSize : Int32} {p0_weightCount : Int32} {p0_roundCount : Int32} {p0_setCount : Int32} {v1 : Int32} {v8 : Int64} {z_p0_rows : Nat → Int64} {post : Int32 → (Nat → Int64) → Prop} {K : (Int32) → (Int32) → (Nat → Int64) → Prop} (E0 : xEnv p s m args meth c cX10_lessened (some .boolean) 12 RX10 wsX10_lessened (dC, dI) cI cJ cZ A) (hk : ∀ (v10 : Int32) (v11 : Int32) (p0_rows : Nat → Int64) (H : Heap) (locs : List Loc) (ls : Array Slot), K v10 v11 p0_rows → va_P (dC, dI) vwCl (wld_X10_lessened cI cJ cZ h_p0 ad_p0 p0_places p0_steps p0_pastFirst p0_past p0_goings p0_rowSize p0_ways p0_hasField p0_fieldSize p0_faultNow p0_hasTree p0_treeSize p0_weightCount p0_roundCount p0_setCount p0_rows) H → va_D A (wld_X10_lessened cI cJ cZ h_p0 ad_p0 p0_places p0_steps p0_pastFirst p0_past p0_goings p0_rowSize p0_ways p0_hasField p0_fieldSize p0_faultNow p0_hasTree p0_treeSize p0_weightCount p0_roundCount p0_setCount p0_rows) → va_S A s.heap H locs → lv_has ls 12 [(10, .int v10)] → W p l e ({ frames := 1, cells := 0, slots := 0, locals := 29 }) s m args below meth c H locs 0 0 (MQ below (q_X10_lessened dC dI cI cJ cZ h_p0 ad_p0 p0_places p0_steps p0_pastFirst p0_past p0_goings p0_rowSize p0_ways p0_hasField p0_fieldSize p0_faultNow p0_hasTree p0_treeSize p0_weightCount p0_roundCount p0_setCount z_p0_rows post A) args s 0 0 A) (F0 m 214 ls [])) : ∀ (n : Nat) (v10 : Int32) (v11 : Int32) (p0_rows : Nat → Int64), w_X10_lessened_L113 v1 v8 post K n v10 v11 p0_rows → ∀ (H : Heap) (locs : List Loc) (ls : Array Slot), va_P (dC, dI) vwCl (wld_X10_lessened cI cJ cZ h_p0 ad_p0 p0_places p0_steps p0_pastFirst p0_past p0_goings p0_rowSize p0_ways p0_hasField p0_fieldSize p0_faultNow p0_hasTree p0_treeSize p0_weightCount p0_roundCount p0_setCount p0_rows) H → va_D A (wld_X10_lessened cI cJ cZ h_p0 ad_p0 p0_places p0_steps p0_pastFirst p0_past p0_goings p0_rowSize p0_ways p0_hasField p0_fieldSize p0_faultNow p0_hasTree p0_treeSize p0_weightCount p0_roundCount p0_setCount p0_rows) → va_S A s.heap H locs → lv_has ls 12 [(0, .ref h_p0), (1, .int v1), (8, .long v8), (10, .int v10), (11, .int v11)] → W p l e ({ frames := 1, cells := 0, slots := 0, locals := 29 }) s m args below meth c H locs 0 0 (MQ below (q_X10_lessened dC dI cI cJ cZ h_p0 ad_p0 p0_places p0_steps p0_pastFirst p0_past p0_goings p0_rowSize p0_ways p0_hasField p0_fieldSize p0_faultNow p0_hasTree p0_treeSize p0_weightCount p0_roundCount p0_setCount z_p0_rows post A) args s 0 0 A) (F0 m 113 ls []) := by
  obtain ⟨hx, hb, hr, hml, hown, hts, hlocks, hK, hA, n1, n2⟩ := id E0
  have iX10 : ∀ w ∈ u_ws RX10 TX10 50, w ∈ wsX10_lessened := fun w h => List.mem_cons_of_mem _ (List.mem_append_right _ h)
  intro n
  induction n with
  | zero => intro v10 v11 p0_rows hw; exact hw.elim
  | succ n ih =>
    intro v10 v11 p0_rows hw H locs ls hP hD hS hl
    have hw : w_X10_lessened_L113b v1 v8 post K (w_X10_lessened_L113 v1 v8 post K n) v10 v11 p0_rows := hw
    unfold w_X10_lessened_L113b at hw
    refine lv_iload hx hb dX10_lessened_113 (lv_at hl 4 rfl) ?_
    refine lv_bipush (v := 32) hx hb dX10_lessened_115 (by decide) ?_
    refine lv_icmp_ge (tgt := 214) hx hb dX10_lessened_117 (by decide) (fun c11 => ?_) (fun c12 => ?_)
    · have hw := hw.1 c11
      exact hk _ _ _ _ _ _ hw hP hD hS (lv_sub hl [3] rfl)
    · have hw := hw.2 c12
      refine lv_aload_n hx hb dX10_lessened_120 rfl (lv_at hl 0 rfl) ?_
      refine va_get (D := (dC, dI)) (ci := 10) (v := .ref (ad_p0 40)) (C := RX10) (T := TX10) (N := 50) hx hb hts iX10 hown hK hP 0 rfl rfl 40 (by decide) (hts (.fieldLink RX10 102 "NetHouseModel" "rows" "[J") (by decide +kernel)) (fun _ h9 => h9) rfl dX10_lessened_121 ?_
      refine lv_bipush (v := 32) hx hb dX10_lessened_124 (by decide) ?_
      refine lv_iload_n hx hb dX10_lessened_126 rfl (lv_at hl 1 rfl) ?_
      refine lv_imul hx hb dX10_lessened_127 ?_
      refine lv_iload hx hb dX10_lessened_128 (lv_at hl 4 rfl) ?_
      refine lv_iadd hx hb dX10_lessened_130 ?_
      refine lv_lload hx hb dX10_lessened_131 (lv_at hl 2 rfl) ?_
      refine lv_lconst (v := 0) hx hb dX10_lessened_133 (by decide) ?_
      refine W.lcmp hx hb dX10_lessened_134 ?_
      refine lv_if_ne (tgt := 142) hx hb dX10_lessened_135 (by decide) (fun c13 => ?_) (fun c14 => ?_)
      · have hw := hw.1 c13
        refine lv_aload_n hx hb dX10_lessened_142 rfl (lv_at hl 0 rfl) ?_
        refine va_get (D := (dC, dI)) (ci := 10) (v := .ref (ad_p0 40)) (C := RX10) (T := TX10) (N := 50) hx hb hts iX10 hown hK hP 0 rfl rfl 40 (by decide) (hts (.fieldLink RX10 102 "NetHouseModel" "rows" "[J") (by decide +kernel)) (fun _ h9 => h9) rfl dX10_lessened_143 ?_
        refine lv_bipush (v := 32) hx hb dX10_lessened_146 (by decide) ?_
        refine lv_iload_n hx hb dX10_lessened_148 rfl (lv_at hl 1 rfl) ?_
        refine lv_imul hx hb dX10_lessened_149 ?_
        refine lv_iload hx hb dX10_lessened_150 (lv_at hl 4 rfl) ?_
        refine lv_iadd hx hb dX10_lessened_152 ?_
        refine va_lald hx hb hK hP 1 1 rfl rfl hw.1 dX10_lessened_153 ?_
        have hw := hw.2
        refine lv_lload hx hb dX10_lessened_154 (lv_at hl 2 rfl) ?_
        refine lv_ldiv hx hb dX10_lessened_156 hw.1 ?_
        have hw := hw.2
        refine va_last hx hb hK hP hD hS 1 1 rfl rfl hw.1 dX10_lessened_157 (fun H locs hP hD hS => ?_)
        have hw := hw.2
        have hP : va_P (dC, dI) vwCl (wld_X10_lessened cI cJ cZ h_p0 ad_p0 p0_places p0_steps p0_pastFirst p0_past p0_goings p0_rowSize p0_ways p0_hasField p0_fieldSize p0_faultNow p0_hasTree p0_treeSize p0_weightCount p0_roundCount p0_setCount (vp_updL p0_rows (((32 : Int32) * v1) + v11).toNatClampNeg ((p0_rows (((32 : Int32) * v1) + v11).toNatClampNeg) / v8))) H := hP
        have hD : va_D A (wld_X10_lessened cI cJ cZ h_p0 ad_p0 p0_places p0_steps p0_pastFirst p0_past p0_goings p0_rowSize p0_ways p0_hasField p0_fieldSize p0_faultNow p0_hasTree p0_treeSize p0_weightCount p0_roundCount p0_setCount (vp_updL p0_rows (((32 : Int32) * v1) + v11).toNatClampNeg ((p0_rows (((32 : Int32) * v1) + v11).toNatClampNeg) / v8))) := hD
        refine lv_iload hx hb dX10_lessened_158 (lv_at hl 3 rfl) ?_
        refine lv_if_eq (tgt := 205) hx hb dX10_lessened_160 (by decide) (fun c15 => ?_) (fun c16 => ?_)
        · have hw := hw.1 c15
          refine lv_iconst (v := 0) hx hb dX10_lessened_205 (by decide) ?_
          refine lv_istore (lv' := [(10, .int (0 : Int32)), (0, .ref h_p0), (1, .int v1), (8, .long v8), (11, .int v11)]) hx hb dX10_lessened_206 hl (by decide) rfl (fun ls hl => ?_)
          obtain ⟨x17, ex17⟩ : ∃ y : Int32, y = v11 + (1 : Int32) := ⟨_, rfl⟩
          have hw := hw x17 ex17
          refine lv_iinc (v := x17) (lv' := [(11, .int x17), (10, .int (0 : Int32)), (0, .ref h_p0), (1, .int v1), (8, .long v8)]) hx hb dX10_lessened_208 hl (k := 4) rfl (by rw [ex17]; rfl) (by decide) rfl (fun ls hl => ?_)
          refine lv_goto (tgt := 113) hx hb dX10_lessened_211 (by decide) ?_
          exact ih _ _ _ hw _ _ _ hP hD hS (lv_sub hl [2, 3, 4, 1, 0] rfl)
        · have hw := hw.2 c16
          refine lv_aload_n hx hb dX10_lessened_163 rfl (lv_at hl 0 rfl) ?_
          refine va_get (D := (dC, dI)) (ci := 10) (v := .ref (ad_p0 40)) (C := RX10) (T := TX10) (N := 50) hx hb hts iX10 hown hK hP 0 rfl rfl 40 (by decide) (hts (.fieldLink RX10 102 "NetHouseModel" "rows" "[J") (by decide +kernel)) (fun _ h9 => h9) rfl dX10_lessened_164 ?_
          refine lv_bipush (v := 32) hx hb dX10_lessened_167 (by decide) ?_
          refine lv_iload_n hx hb dX10_lessened_169 rfl (lv_at hl 1 rfl) ?_
          refine lv_imul hx hb dX10_lessened_170 ?_
          refine lv_iload hx hb dX10_lessened_171 (lv_at hl 4 rfl) ?_
          refine lv_iadd hx hb dX10_lessened_173 ?_
          refine va_lald hx hb hK hP 1 1 rfl rfl hw.1 dX10_lessened_174 ?_
          have hw := hw.2
          refine lv_ldc2 (v := 1000000000) hx hb hown (hts (.constantLong RX10 327 (1000000000)) (by decide +kernel)) dX10_lessened_175 ?_
          refine W.lcmp hx hb dX10_lessened_178 ?_
          refine lv_if_gt (tgt := 205) hx hb dX10_lessened_179 (by decide) (fun c18 => ?_) (fun c19 => ?_)
          · have hw := hw.1 c18
            refine lv_iconst (v := 0) hx hb dX10_lessened_205 (by decide) ?_
            refine lv_istore (lv' := [(10, .int (0 : Int32)), (0, .ref h_p0), (1, .int v1), (8, .long v8), (11, .int v11)]) hx hb dX10_lessened_206 hl (by decide) rfl (fun ls hl => ?_)
            obtain ⟨x20, ex20⟩ : ∃ y : Int32, y = v11 + (1 : Int32) := ⟨_, rfl⟩
            have hw := hw x20 ex20
            refine lv_iinc (v := x20) (lv' := [(11, .int x20), (10, .int (0 : Int32)), (0, .ref h_p0), (1, .int v1), (8, .long v8)]) hx hb dX10_lessened_208 hl (k := 4) rfl (by rw [ex20]; rfl) (by decide) rfl (fun ls hl => ?_)
            refine lv_goto (tgt := 113) hx hb dX10_lessened_211 (by decide) ?_
            exact ih _ _ _ hw _ _ _ hP hD hS (lv_sub hl [2, 3, 4, 1, 0] rfl)
          · have hw := hw.2 c19
            refine lv_aload_n hx hb dX10_lessened_182 rfl (lv_at hl 0 rfl) ?_
            refine va_get (D := (dC, dI)) (ci := 10) (v := .ref (ad_p0 40)) (C := RX10) (T := TX10) (N := 50) hx hb hts iX10 hown hK hP 0 rfl rfl 40 (by decide) (hts (.fieldLink RX10 102 "NetHouseModel" "rows" "[J") (by decide +kernel)) (fun _ h9 => h9) rfl dX10_lessened_183 ?_
            refine lv_bipush (v := 32) hx hb dX10_lessened_186 (by decide) ?_
            refine lv_iload_n hx hb dX10_lessened_188 rfl (lv_at hl 1 rfl) ?_
            refine lv_imul hx hb dX10_lessened_189 ?_
            refine lv_iload hx hb dX10_lessened_190 (lv_at hl 4 rfl) ?_
            refine lv_iadd hx hb dX10_lessened_192 ?_
            refine va_lald hx hb hK hP 1 1 rfl rfl hw.1 dX10_lessened_193 ?_
            have hw := hw.2
            refine lv_ldc2 (v := -1000000000) hx hb hown (hts (.constantLong RX10 329 (-1000000000)) (by decide +kernel)) dX10_lessened_194 ?_
            refine W.lcmp hx hb dX10_lessened_197 ?_
            refine lv_if_lt (tgt := 205) hx hb dX10_lessened_198 (by decide) (fun c21 => ?_) (fun c22 => ?_)
            · have hw := hw.1 c21
              refine lv_iconst (v := 0) hx hb dX10_lessened_205 (by decide) ?_
              refine lv_istore (lv' := [(10, .int (0 : Int32)), (0, .ref h_p0), (1, .int v1), (8, .long v8), (11, .int v11)]) hx hb dX10_lessened_206 hl (by decide) rfl (fun ls hl => ?_)
              obtain ⟨x23, ex23⟩ : ∃ y : Int32, y = v11 + (1 : Int32) := ⟨_, rfl⟩
              have hw := hw x23 ex23
              refine lv_iinc (v := x23) (lv' := [(11, .int x23), (10, .int (0 : Int32)), (0, .ref h_p0), (1, .int v1), (8, .long v8)]) hx hb dX10_lessened_208 hl (k := 4) rfl (by rw [ex23]; rfl) (by decide) rfl (fun ls hl => ?_)
              refine lv_goto (tgt := 113) hx hb dX10_lessened_211 (by decide) ?_
              exact ih _ _ _ hw _ _ _ hP hD hS (lv_sub hl [2, 3, 4, 1, 0] rfl)
            · have hw := hw.2 c22
              refine lv_iconst (v := 1) hx hb dX10_lessened_201 (by decide) ?_
              refine lv_goto (tgt := 206) hx hb dX10_lessened_202 (by decide) ?_
              refine lv_istore (lv' := [(10, .int (1 : Int32)), (0, .ref h_p0), (1, .int v1), (8, .long v8), (11, .int v11)]) hx hb dX10_lessened_206 hl (by decide) rfl (fun ls hl => ?_)
              obtain ⟨x24, ex24⟩ : ∃ y : Int32, y = v11 + (1 : Int32) := ⟨_, rfl⟩
              have hw := hw x24 ex24
              refine lv_iinc (v := x24) (lv' := [(11, .int x24), (10, .int (1 : Int32)), (0, .ref h_p0), (1, .int v1), (8, .long v8)]) hx hb dX10_lessened_208 hl (k := 4) rfl (by rw [ex24]; rfl) (by decide) rfl (fun ls hl => ?_)
              refine lv_goto (tgt := 113) hx hb dX10_lessened_211 (by decide) ?_
              exact ih _ _ _ hw _ _ _ hP hD hS (lv_sub hl [2, 3, 4, 1, 0] rfl)
      · have hw := hw.2 c14
        refine lv_lconst (v := 0) hx hb dX10_lessened_138 (by decide) ?_
        refine lv_goto (tgt := 157) hx hb dX10_lessened_139 (by decide) ?_
        refine va_last hx hb hK hP hD hS 1 1 rfl rfl hw.1 dX10_lessened_157 (fun H locs hP hD hS => ?_)
        have hw := hw.2
        have hP : va_P (dC, dI) vwCl (wld_X10_lessened cI cJ cZ h_p0 ad_p0 p0_places p0_steps p0_pastFirst p0_past p0_goings p0_rowSize p0_ways p0_hasField p0_fieldSize p0_faultNow p0_hasTree p0_treeSize p0_weightCount p0_roundCount p0_setCount (vp_updL p0_rows (((32 : Int32) * v1) + v11).toNatClampNeg (0 : Int64))) H := hP
        have hD : va_D A (wld_X10_lessened cI cJ cZ h_p0 ad_p0 p0_places p0_steps p0_pastFirst p0_past p0_goings p0_rowSize p0_ways p0_hasField p0_fieldSize p0_faultNow p0_hasTree p0_treeSize p0_weightCount p0_roundCount p0_setCount (vp_updL p0_rows (((32 : Int32) * v1) + v11).toNatClampNeg (0 : Int64))) := hD
        refine lv_iload hx hb dX10_lessened_158 (lv_at hl 3 rfl) ?_
        refine lv_if_eq (tgt := 205) hx hb dX10_lessened_160 (by decide) (fun c25 => ?_) (fun c26 => ?_)
        · have hw := hw.1 c25
          refine lv_iconst (v := 0) hx hb dX10_lessened_205 (by decide) ?_
          refine lv_istore (lv' := [(10, .int (0 : Int32)), (0, .ref h_p0), (1, .int v1), (8, .long v8), (11, .int v11)]) hx hb dX10_lessened_206 hl (by decide) rfl (fun ls hl => ?_)
          obtain ⟨x27, ex27⟩ : ∃ y : Int32, y = v11 + (1 : Int32) := ⟨_, rfl⟩
          have hw := hw x27 ex27
          refine lv_iinc (v := x27) (lv' := [(11, .int x27), (10, .int (0 : Int32)), (0, .ref h_p0), (1, .int v1), (8, .long v8)]) hx hb dX10_lessened_208 hl (k := 4) rfl (by rw [ex27]; rfl) (by decide) rfl (fun ls hl => ?_)
          refine lv_goto (tgt := 113) hx hb dX10_lessened_211 (by decide) ?_
          exact ih _ _ _ hw _ _ _ hP hD hS (lv_sub hl [2, 3, 4, 1, 0] rfl)
        · have hw := hw.2 c26
          refine lv_aload_n hx hb dX10_lessened_163 rfl (lv_at hl 0 rfl) ?_
          refine va_get (D := (dC, dI)) (ci := 10) (v := .ref (ad_p0 40)) (C := RX10) (T := TX10) (N := 50) hx hb hts iX10 hown hK hP 0 rfl rfl 40 (by decide) (hts (.fieldLink RX10 102 "NetHouseModel" "rows" "[J") (by decide +kernel)) (fun _ h9 => h9) rfl dX10_lessened_164 ?_
          refine lv_bipush (v := 32) hx hb dX10_lessened_167 (by decide) ?_
          refine lv_iload_n hx hb dX10_lessened_169 rfl (lv_at hl 1 rfl) ?_
          refine lv_imul hx hb dX10_lessened_170 ?_
          refine lv_iload hx hb dX10_lessened_171 (lv_at hl 4 rfl) ?_
          refine lv_iadd hx hb dX10_lessened_173 ?_
          refine va_lald hx hb hK hP 1 1 rfl rfl hw.1 dX10_lessened_174 ?_
          have hw := hw.2
          refine lv_ldc2 (v := 1000000000) hx hb hown (hts (.constantLong RX10 327 (1000000000)) (by decide +kernel)) dX10_lessened_175 ?_
          refine W.lcmp hx hb dX10_lessened_178 ?_
          refine lv_if_gt (tgt := 205) hx hb dX10_lessened_179 (by decide) (fun c28 => ?_) (fun c29 => ?_)
          · have hw := hw.1 c28
            refine lv_iconst (v := 0) hx hb dX10_lessened_205 (by decide) ?_
            refine lv_istore (lv' := [(10, .int (0 : Int32)), (0, .ref h_p0), (1, .int v1), (8, .long v8), (11, .int v11)]) hx hb dX10_lessened_206 hl (by decide) rfl (fun ls hl => ?_)
            obtain ⟨x30, ex30⟩ : ∃ y : Int32, y = v11 + (1 : Int32) := ⟨_, rfl⟩
            have hw := hw x30 ex30
            refine lv_iinc (v := x30) (lv' := [(11, .int x30), (10, .int (0 : Int32)), (0, .ref h_p0), (1, .int v1), (8, .long v8)]) hx hb dX10_lessened_208 hl (k := 4) rfl (by rw [ex30]; rfl) (by decide) rfl (fun ls hl => ?_)
            refine lv_goto (tgt := 113) hx hb dX10_lessened_211 (by decide) ?_
            exact ih _ _ _ hw _ _ _ hP hD hS (lv_sub hl [2, 3, 4, 1, 0] rfl)
          · have hw := hw.2 c29
            refine lv_aload_n hx hb dX10_lessened_182 rfl (lv_at hl 0 rfl) ?_
            refine va_get (D := (dC, dI)) (ci := 10) (v := .ref (ad_p0 40)) (C := RX10) (T := TX10) (N := 50) hx hb hts iX10 hown hK hP 0 rfl rfl 40 (by decide) (hts (.fieldLink RX10 102 "NetHouseModel" "rows" "[J") (by decide +kernel)) (fun _ h9 => h9) rfl dX10_lessened_183 ?_
            refine lv_bipush (v := 32) hx hb dX10_lessened_186 (by decide) ?_
            refine lv_iload_n hx hb dX10_lessened_188 rfl (lv_at hl 1 rfl) ?_
            refine lv_imul hx hb dX10_lessened_189 ?_
            refine lv_iload hx hb dX10_lessened_190 (lv_at hl 4 rfl) ?_
            refine lv_iadd hx hb dX10_lessened_192 ?_
            refine va_lald hx hb hK hP 1 1 rfl rfl hw.1 dX10_lessened_193 ?_
            have hw := hw.2
            refine lv_ldc2 (v := -1000000000) hx hb hown (hts (.constantLong RX10 329 (-1000000000)) (by decide +kernel)) dX10_lessened_194 ?_
            refine W.lcmp hx hb dX10_lessened_197 ?_
            refine lv_if_lt (tgt := 205) hx hb dX10_lessened_198 (by decide) (fun c31 => ?_) (fun c32 => ?_)
            · have hw := hw.1 c31
              refine lv_iconst (v := 0) hx hb dX10_lessened_205 (by decide) ?_
              refine lv_istore (lv' := [(10, .int (0 : Int32)), (0, .ref h_p0), (1, .int v1), (8, .long v8), (11, .int v11)]) hx hb dX10_lessened_206 hl (by decide) rfl (fun ls hl => ?_)
              obtain ⟨x33, ex33⟩ : ∃ y : Int32, y = v11 + (1 : Int32) := ⟨_, rfl⟩
              have hw := hw x33 ex33
              refine lv_iinc (v := x33) (lv' := [(11, .int x33), (10, .int (0 : Int32)), (0, .ref h_p0), (1, .int v1), (8, .long v8)]) hx hb dX10_lessened_208 hl (k := 4) rfl (by rw [ex33]; rfl) (by decide) rfl (fun ls hl => ?_)
              refine lv_goto (tgt := 113) hx hb dX10_lessened_211 (by decide) ?_
              exact ih _ _ _ hw _ _ _ hP hD hS (lv_sub hl [2, 3, 4, 1, 0] rfl)
            · have hw := hw.2 c32
              refine lv_iconst (v := 1) hx hb dX10_lessened_201 (by decide) ?_
              refine lv_goto (tgt := 206) hx hb dX10_lessened_202 (by decide) ?_
              refine lv_istore (lv' := [(10, .int (1 : Int32)), (0, .ref h_p0), (1, .int v1), (8, .long v8), (11, .int v11)]) hx hb dX10_lessened_206 hl (by decide) rfl (fun ls hl => ?_)
              obtain ⟨x34, ex34⟩ : ∃ y : Int32, y = v11 + (1 : Int32) := ⟨_, rfl⟩
              have hw := hw x34 ex34
              refine lv_iinc (v := x34) (lv' := [(11, .int x34), (10, .int (1 : Int32)), (0, .ref h_p0), (1, .int v1), (8, .long v8)]) hx hb dX10_lessened_208 hl (k := 4) rfl (by rw [ex34]; rfl) (by decide) rfl (fun ls hl => ?_)
              refine lv_goto (tgt := 113) hx hb dX10_lessened_211 (by decide) ?_
              exact ih _ _ _ hw _ _ _ hP hD hS (lv_sub hl [2, 3, 4, 1, 0] rfl)
set_option maxHeartbeats 4000000 in
set_option maxRecDepth 100000 in
theorem c_X10_lessened {l : Launch} {dC : Nat → ClassId} {dI : Nat → Nat → Nat} {sz : Nat} {cI cJ cZ : ClassId} {h_p0 : Nat} {ad_p0 : Nat → Nat} {p0_places : Int32} {p0_steps : Int32} {p0_pastFirst : Int32} {p0_past : Int32} {p0_goings : Int32} {p0_rowSize : Int32} {p0_ways : Int32} {p0_hasField : Int32} {p0_fieldSize : Int32} {p0_faultNow : Int32} {p0_hasTree : Int32} {p0_treeSize : Int32} {p0_weightCount : Int32} {p0_roundCount : Int32} {p0_setCount : Int32} {p0_rows : Nat → Int64} {a1 : Int32} {a2 : Int32} {a3 : Int32} {post : Int32 → (Nat → Int64) → Prop} (hw : w_X10_lessened p0_rows a1 a2 a3 post) : Met l yX10_lessened wsX10_lessened ({ frames := 1, cells := 0, slots := 0, locals := 29 }) (va_Pc [.ref h_p0, .int a1, .int a2, .int a3] (xPre (dC, dI) cI cJ cZ (wld_X10_lessened cI cJ cZ h_p0 ad_p0 p0_places p0_steps p0_pastFirst p0_past p0_goings p0_rowSize p0_ways p0_hasField p0_fieldSize p0_faultNow p0_hasTree p0_treeSize p0_weightCount p0_roundCount p0_setCount p0_rows) sz)) (q_X10_lessened dC dI cI cJ cZ h_p0 ad_p0 p0_places p0_steps p0_pastFirst p0_past p0_goings p0_rowSize p0_ways p0_hasField p0_fieldSize p0_faultNow p0_hasTree p0_treeSize p0_weightCount p0_roundCount p0_setCount p0_rows post (va_A (wld_X10_lessened cI cJ cZ h_p0 ad_p0 p0_places p0_steps p0_pastFirst p0_past p0_goings p0_rowSize p0_ways p0_hasField p0_fieldSize p0_faultNow p0_hasTree p0_treeSize p0_weightCount p0_roundCount p0_setCount p0_rows) sz)) 0 0 (va_A (wld_X10_lessened cI cJ cZ h_p0 ad_p0 p0_places p0_steps p0_pastFirst p0_past p0_goings p0_rowSize p0_ways p0_hasField p0_fieldSize p0_faultNow p0_hasTree p0_treeSize p0_weightCount p0_roundCount p0_setCount p0_rows) sz) := by
  refine x_met (cc := cX10_lessened) (maxL := 12) (ret := (some .boolean)) (own := RX10) (Qc := fun A => (q_X10_lessened dC dI cI cJ cZ h_p0 ad_p0 p0_places p0_steps p0_pastFirst p0_past p0_goings p0_rowSize p0_ways p0_hasField p0_fieldSize p0_faultNow p0_hasTree p0_treeSize p0_weightCount p0_roundCount p0_setCount p0_rows post A)) (by decide) rfl rfl (Nat.le_of_ble_eq_true rfl) ?_
  intro p e s m args below meth c A ls E0 hP hD hS hl
  obtain ⟨hx, hb, hr, hml, hown, hts, hlocks, hK, hA, n1, n2⟩ := id E0
  have iX10 : ∀ w ∈ u_ws RX10 TX10 50, w ∈ wsX10_lessened := fun w h => List.mem_cons_of_mem _ (List.mem_append_right _ h)
  have hS0 := hS
  have hl : lv_has ls 12 [(0, .ref h_p0), (1, .int a1), (2, .int a2), (3, .int a3)] := hl
  unfold w_X10_lessened at hw
  obtain ⟨H, hH⟩ : ∃ H, H = s.heap := ⟨_, rfl⟩
  have hS : va_S A s.heap H [] := by rw [hH]; exact hS
  have hP : va_P (dC, dI) vwCl (wld_X10_lessened cI cJ cZ h_p0 ad_p0 p0_places p0_steps p0_pastFirst p0_past p0_goings p0_rowSize p0_ways p0_hasField p0_fieldSize p0_faultNow p0_hasTree p0_treeSize p0_weightCount p0_roundCount p0_setCount p0_rows) H := by rw [hH]; exact hP
  suffices hG : W p l e ({ frames := 1, cells := 0, slots := 0, locals := 29 }) s m args below meth c H [] 0 0 (MQ below (q_X10_lessened dC dI cI cJ cZ h_p0 ad_p0 p0_places p0_steps p0_pastFirst p0_past p0_goings p0_rowSize p0_ways p0_hasField p0_fieldSize p0_faultNow p0_hasTree p0_treeSize p0_weightCount p0_roundCount p0_setCount p0_rows post A) args s 0 0 A) (F0 m 0 ls []) by rw [hH] at hG; exact hG
  clear hH
  refine lv_aload_n hx hb dX10_lessened_0 rfl (lv_at hl 0 rfl) ?_
  refine va_get (D := (dC, dI)) (ci := 10) (v := .ref (ad_p0 40)) (C := RX10) (T := TX10) (N := 50) hx hb hts iX10 hown hK hP 0 rfl rfl 40 (by decide) (hts (.fieldLink RX10 102 "NetHouseModel" "rows" "[J") (by decide +kernel)) (fun _ h9 => h9) rfl dX10_lessened_1 ?_
  refine lv_bipush (v := 32) hx hb dX10_lessened_4 (by decide) ?_
  refine lv_iload_n hx hb dX10_lessened_6 rfl (lv_at hl 2 rfl) ?_
  refine lv_imul hx hb dX10_lessened_7 ?_
  refine lv_iload_n hx hb dX10_lessened_8 rfl (lv_at hl 3 rfl) ?_
  refine lv_iadd hx hb dX10_lessened_9 ?_
  refine va_lald hx hb hK hP 1 1 rfl rfl hw.1 dX10_lessened_10 ?_
  have hw := hw.2
  refine lv_topl (fun x1 ex1 => ?_)
  have hw := hw x1 ex1
  refine lv_lstore (lv' := [(4, .long x1), (0, .ref h_p0), (1, .int a1), (2, .int a2), (3, .int a3)]) hx hb dX10_lessened_11 hl (by decide) rfl (fun ls hl => ?_)
  refine lv_aload_n hx hb dX10_lessened_13 rfl (lv_at hl 1 rfl) ?_
  refine va_get (D := (dC, dI)) (ci := 10) (v := .ref (ad_p0 40)) (C := RX10) (T := TX10) (N := 50) hx hb hts iX10 hown hK hP 0 rfl rfl 40 (by decide) (hts (.fieldLink RX10 102 "NetHouseModel" "rows" "[J") (by decide +kernel)) (fun _ h9 => h9) rfl dX10_lessened_14 ?_
  refine lv_bipush (v := 32) hx hb dX10_lessened_17 (by decide) ?_
  refine lv_iload_n hx hb dX10_lessened_19 rfl (lv_at hl 2 rfl) ?_
  refine lv_imul hx hb dX10_lessened_20 ?_
  refine lv_iload_n hx hb dX10_lessened_21 rfl (lv_at hl 4 rfl) ?_
  refine lv_iadd hx hb dX10_lessened_22 ?_
  refine va_lald hx hb hK hP 1 1 rfl rfl hw.1 dX10_lessened_23 ?_
  have hw := hw.2
  refine lv_topl (fun x2 ex2 => ?_)
  have hw := hw x2 ex2
  refine lv_lstore (lv' := [(6, .long x2), (4, .long x1), (0, .ref h_p0), (1, .int a1), (2, .int a2), (3, .int a3)]) hx hb dX10_lessened_24 hl (by decide) rfl (fun ls hl => ?_)
  refine lv_lconst (v := 0) hx hb dX10_lessened_26 (by decide) ?_
  refine lv_lstore (lv' := [(8, .long (0 : Int64)), (6, .long x2), (4, .long x1), (0, .ref h_p0), (1, .int a1), (2, .int a2), (3, .int a3)]) hx hb dX10_lessened_27 hl (by decide) rfl (fun ls hl => ?_)
  refine lv_iconst (v := 0) hx hb dX10_lessened_29 (by decide) ?_
  refine lv_istore (lv' := [(10, .int (0 : Int32)), (8, .long (0 : Int64)), (6, .long x2), (4, .long x1), (0, .ref h_p0), (1, .int a1), (2, .int a2), (3, .int a3)]) hx hb dX10_lessened_30 hl (by decide) rfl (fun ls hl => ?_)
  obtain ⟨n7, hw⟩ := hw
  refine c_X10_lessened_L32 (l := l) (z_p0_rows := p0_rows) E0 ?_ n7 _ _ _ hw _ _ _ hP hD hS (lv_sub hl [4, 5, 6, 3, 2, 1, 0] rfl)
  · intro v8 v9 s10 H locs ls hw hP hD hS hl
    have hP : va_P (dC, dI) vwCl (wld_X10_lessened cI cJ cZ h_p0 ad_p0 p0_places p0_steps p0_pastFirst p0_past p0_goings p0_rowSize p0_ways p0_hasField p0_fieldSize p0_faultNow p0_hasTree p0_treeSize p0_weightCount p0_roundCount p0_setCount s10) H := hP
    have hD : va_D A (wld_X10_lessened cI cJ cZ h_p0 ad_p0 p0_places p0_steps p0_pastFirst p0_past p0_goings p0_rowSize p0_ways p0_hasField p0_fieldSize p0_faultNow p0_hasTree p0_treeSize p0_weightCount p0_roundCount p0_setCount s10) := hD
    refine lv_iconst (v := 1) hx hb dX10_lessened_107 (by decide) ?_
    refine lv_istore (lv' := [(10, .int (1 : Int32)), (0, .ref h_p0), (1, .int a1), (8, .long v8)]) hx hb dX10_lessened_108 hl (by decide) rfl (fun ls hl => ?_)
    refine lv_iconst (v := 0) hx hb dX10_lessened_110 (by decide) ?_
    refine lv_istore (lv' := [(11, .int (0 : Int32)), (10, .int (1 : Int32)), (0, .ref h_p0), (1, .int a1), (8, .long v8)]) hx hb dX10_lessened_111 hl (by decide) rfl (fun ls hl => ?_)
    obtain ⟨n35, hw⟩ := hw
    refine c_X10_lessened_L113 (l := l) (z_p0_rows := s10) E0 ?_ n35 _ _ _ hw _ _ _ hP hD hS (lv_sub hl [2, 3, 4, 1, 0] rfl)
    · intro v36 v37 s38 H locs ls hw hP hD hS hl
      have hP : va_P (dC, dI) vwCl (wld_X10_lessened cI cJ cZ h_p0 ad_p0 p0_places p0_steps p0_pastFirst p0_past p0_goings p0_rowSize p0_ways p0_hasField p0_fieldSize p0_faultNow p0_hasTree p0_treeSize p0_weightCount p0_roundCount p0_setCount s38) H := hP
      have hD : va_D A (wld_X10_lessened cI cJ cZ h_p0 ad_p0 p0_places p0_steps p0_pastFirst p0_past p0_goings p0_rowSize p0_ways p0_hasField p0_fieldSize p0_faultNow p0_hasTree p0_treeSize p0_weightCount p0_roundCount p0_setCount s38) := hD
      refine lv_iload hx hb dX10_lessened_214 (lv_at hl 0 rfl) ?_
      have hv := hw.1
      have hw := hw.2
      exact x_zret (w1 := fun (u : (Nat → Int64)) => (wld_X10_lessened cI cJ cZ h_p0 ad_p0 p0_places p0_steps p0_pastFirst p0_past p0_goings p0_rowSize p0_ways p0_hasField p0_fieldSize p0_faultNow p0_hasTree p0_treeSize p0_weightCount p0_roundCount p0_setCount u)) hx hb hr hlocks hv (s38) hw hP hD hS dX10_lessened_216
abbrev wld_X10_firstWith (cI cJ cZ : ClassId) (h_p0 : Nat) (ad_p0 : Nat → Nat) (p0_places : Int32) (p0_steps : Int32) (p0_pastFirst : Int32) (p0_past : Int32) (p0_goings : Int32) (p0_rowSize : Int32) (p0_ways : Int32) (p0_hasField : Int32) (p0_fieldSize : Int32) (p0_faultNow : Int32) (p0_hasTree : Int32) (p0_treeSize : Int32) (p0_weightCount : Int32) (p0_roundCount : Int32) (p0_setCount : Int32) (p0_isOut : Nat → Int32) (p0_rows : Nat → Int64) : va_W := [(h_p0, .inr (10, [.int p0_places, .int p0_steps, .ref (ad_p0 2), .ref (ad_p0 3), .ref (ad_p0 4), .ref (ad_p0 5), .ref (ad_p0 6), .ref (ad_p0 7), .ref (ad_p0 8), .ref (ad_p0 9), .ref (ad_p0 10), .ref (ad_p0 11), .ref (ad_p0 12), .ref (ad_p0 13), .ref (ad_p0 14), .int p0_pastFirst, .int p0_past, .int p0_goings, .int p0_rowSize, .ref (ad_p0 19), .ref (ad_p0 20), .int p0_ways, .ref (ad_p0 22), .ref (ad_p0 23), .int p0_hasField, .int p0_fieldSize, .ref (ad_p0 26), .ref (ad_p0 27), .ref (ad_p0 28), .ref (ad_p0 29), .ref (ad_p0 30), .ref (ad_p0 31), .ref (ad_p0 32), .int p0_faultNow, .int p0_hasTree, .int p0_treeSize, .ref (ad_p0 36), .ref (ad_p0 37), .ref (ad_p0 38), .ref (ad_p0 39), .ref (ad_p0 40), .ref (ad_p0 41), .ref (ad_p0 42), .int p0_weightCount, .ref (ad_p0 44), .int p0_roundCount, .ref (ad_p0 46), .int p0_setCount, .ref (ad_p0 48), .ref (ad_p0 49)])), ((ad_p0 41), .inl (cZ, 16, .inl p0_isOut)), ((ad_p0 40), .inl (cJ, 512, .inr (.inl p0_rows)))]
abbrev q_X10_firstWith (dC : Nat → ClassId) (dI : Nat → Nat → Nat) (cI cJ cZ : ClassId) (h_p0 : Nat) (ad_p0 : Nat → Nat) (p0_places : Int32) (p0_steps : Int32) (p0_pastFirst : Int32) (p0_past : Int32) (p0_goings : Int32) (p0_rowSize : Int32) (p0_ways : Int32) (p0_hasField : Int32) (p0_fieldSize : Int32) (p0_faultNow : Int32) (p0_hasTree : Int32) (p0_treeSize : Int32) (p0_weightCount : Int32) (p0_roundCount : Int32) (p0_setCount : Int32) (p0_isOut : Nat → Int32) (p0_rows : Nat → Int64) (post : Int32 → Prop) (A : Nat → Prop) : Array Value → State → Outcome → State → Prop := va_Qi (fun r (u : Unit) => post r ) (fun (u : Unit) t => xPost (dC, dI) A (wld_X10_firstWith cI cJ cZ h_p0 ad_p0 p0_places p0_steps p0_pastFirst p0_past p0_goings p0_rowSize p0_ways p0_hasField p0_fieldSize p0_faultNow p0_hasTree p0_treeSize p0_weightCount p0_roundCount p0_setCount p0_isOut p0_rows) t) A
def w_X10_firstWith_L2b (v1 : Int32) (v2 : Int32) (p0_isOut : Nat → Int32) (p0_rows : Nat → Int64) (post : Int32 → Prop) (K : (Int32) → Prop) (rec : (Int32) → Prop) (v3 : Int32) : Prop :=
    (v1 ≤ v3 →
      K v3) ∧
    (¬ v1 ≤ v3 →
      vp_in v3 16 ∧
      (¬ (p0_isOut v3.toNatClampNeg) = 0 →
        ∀ x5 : Int32, x5 = v3 + (1 : Int32) →
        rec x5) ∧
      ((p0_isOut v3.toNatClampNeg) = 0 →
        vp_in (((32 : Int32) * v3) + v2) 512 ∧
        ((lg_cmp (p0_rows (((32 : Int32) * v3) + v2).toNatClampNeg) (0 : Int64)) = 0 →
          ∀ x8 : Int32, x8 = v3 + (1 : Int32) →
          rec x8) ∧
        (¬ (lg_cmp (p0_rows (((32 : Int32) * v3) + v2).toNatClampNeg) (0 : Int64)) = 0 →
          (post v3))))
def w_X10_firstWith_L2 (v1 : Int32) (v2 : Int32) (p0_isOut : Nat → Int32) (p0_rows : Nat → Int64) (post : Int32 → Prop) (K : (Int32) → Prop) : Nat → (Int32) → Prop
  | 0, _ => False
  | n + 1, v3 => w_X10_firstWith_L2b v1 v2 p0_isOut p0_rows post K (w_X10_firstWith_L2 v1 v2 p0_isOut p0_rows post K n) v3
def w_X10_firstWith (p0_isOut : Nat → Int32) (p0_rows : Nat → Int64) (a1 : Int32) (a2 : Int32) (post : Int32 → Prop) : Prop :=
  ∃ n : Nat, w_X10_firstWith_L2 a1 a2 p0_isOut p0_rows post (fun v10 =>
      (post (-1 : Int32))) n (0 : Int32)
set_option maxHeartbeats 4000000 in
set_option maxRecDepth 100000 in
theorem c_X10_firstWith_L2 {p : Program} {l : Launch} {e : Env} {s : State} {m : MethodId} {args : Array Value} {below : List Frame} {meth : Method} {c : Code} {dC : Nat → ClassId} {dI : Nat → Nat → Nat} {A : Nat → Prop} {cI cJ cZ : ClassId} {h_p0 : Nat} {ad_p0 : Nat → Nat} {p0_places : Int32} {p0_steps : Int32} {p0_pastFirst : Int32} {p0_past : Int32} {p0_goings : Int32} {p0_rowSize : Int32} {p0_ways : Int32} {p0_hasField : Int32} {p0_fieldSize : Int32} {p0_faultNow : Int32} {p0_hasTree : Int32} {p0_treeSize : Int32} {p0_weightCount : Int32} {p0_roundCount : Int32} {p0_setCount : Int32} {p0_isOut : Nat → Int32} {p0_rows : Nat → Int64} {v1 : Int32} {v2 : Int32}  {post : Int32 → Prop} {K : (Int32) → Prop} (E0 : xEnv p s m args meth c cX10_firstWith (some .int) 4 RX10 wsX10_firstWith (dC, dI) cI cJ cZ A) (hk : ∀ (v3 : Int32) (H : Heap) (locs : List Loc) (ls : Array Slot), K v3 → va_P (dC, dI) vwCl (wld_X10_firstWith cI cJ cZ h_p0 ad_p0 p0_places p0_steps p0_pastFirst p0_past p0_goings p0_rowSize p0_ways p0_hasField p0_fieldSize p0_faultNow p0_hasTree p0_treeSize p0_weightCount p0_roundCount p0_setCount p0_isOut p0_rows) H → va_D A (wld_X10_firstWith cI cJ cZ h_p0 ad_p0 p0_places p0_steps p0_pastFirst p0_past p0_goings p0_rowSize p0_ways p0_hasField p0_fieldSize p0_faultNow p0_hasTree p0_treeSize p0_weightCount p0_roundCount p0_setCount p0_isOut p0_rows) → va_S A s.heap H locs → lv_has ls 4 [] → W p l e ({ frames := 0, cells := 0, slots := 0, locals := 0 }) s m args below meth c H locs 0 0 (MQ below (q_X10_firstWith dC dI cI cJ cZ h_p0 ad_p0 p0_places p0_steps p0_pastFirst p0_past p0_goings p0_rowSize p0_ways p0_hasField p0_fieldSize p0_faultNow p0_hasTree p0_treeSize p0_weightCount p0_roundCount p0_setCount p0_isOut p0_rows post A) args s 0 0 A) (F0 m 40 ls [])) : ∀ (n : Nat) (v3 : Int32), w_X10_firstWith_L2 v1 v2 p0_isOut p0_rows post K n v3 → ∀ (H : Heap) (locs : List Loc) (ls : Array Slot), va_P (dC, dI) vwCl (wld_X10_firstWith cI cJ cZ h_p0 ad_p0 p0_places p0_steps p0_pastFirst p0_past p0_goings p0_rowSize p0_ways p0_hasField p0_fieldSize p0_faultNow p0_hasTree p0_treeSize p0_weightCount p0_roundCount p0_setCount p0_isOut p0_rows) H → va_D A (wld_X10_firstWith cI cJ cZ h_p0 ad_p0 p0_places p0_steps p0_pastFirst p0_past p0_goings p0_rowSize p0_ways p0_hasField p0_fieldSize p0_faultNow p0_hasTree p0_treeSize p0_weightCount p0_roundCount p0_setCount p0_isOut p0_rows) → va_S A s.heap H locs → lv_has ls 4 [(0, .ref h_p0), (1, .int v1), (2, .int v2), (3, .int v3)] → W p l e ({ frames := 0, cells := 0, slots := 0, locals := 0 }) s m args below meth c H locs 0 0 (MQ below (q_X10_firstWith dC dI cI cJ cZ h_p0 ad_p0 p0_places p0_steps p0_pastFirst p0_past p0_goings p0_rowSize p0_ways p0_hasField p0_fieldSize p0_faultNow p0_hasTree p0_treeSize p0_weightCount p0_roundCount p0_setCount p0_isOut p0_rows post A) args s 0 0 A) (F0 m 2 ls []) := by
  obtain ⟨hx, hb, hr, hml, hown, hts, hlocks, hK, hA, n1, n2⟩ := id E0
  have iX10 : ∀ w ∈ u_ws RX10 TX10 50, w ∈ wsX10_firstWith := fun w h => List.mem_cons_of_mem _ (List.mem_append_right _ h)
  intro n
  induction n with
  | zero => intro v3 hw; exact hw.elim
  | succ n ih =>
    intro v3 hw H locs ls hP hD hS hl
    have hw : w_X10_firstWith_L2b v1 v2 p0_isOut p0_rows post K (w_X10_firstWith_L2 v1 v2 p0_isOut p0_rows post K n) v3 := hw
    unfold w_X10_firstWith_L2b at hw
    refine lv_iload_n hx hb dX10_firstWith_2 rfl (lv_at hl 3 rfl) ?_
    refine lv_iload_n hx hb dX10_firstWith_3 rfl (lv_at hl 1 rfl) ?_
    refine lv_icmp_ge (tgt := 40) hx hb dX10_firstWith_4 (by decide) (fun c1 => ?_) (fun c2 => ?_)
    · have hw := hw.1 c1
      exact hk _ _ _ _ hw hP hD hS (lv_sub hl [] rfl)
    · have hw := hw.2 c2
      refine lv_aload_n hx hb dX10_firstWith_7 rfl (lv_at hl 0 rfl) ?_
      refine va_get (D := (dC, dI)) (ci := 10) (v := .ref (ad_p0 41)) (C := RX10) (T := TX10) (N := 50) hx hb hts iX10 hown hK hP 0 rfl rfl 41 (by decide) (hts (.fieldLink RX10 106 "NetHouseModel" "isOut" "[Z") (by decide +kernel)) (fun _ h9 => h9) rfl dX10_firstWith_8 ?_
      refine lv_iload_n hx hb dX10_firstWith_11 rfl (lv_at hl 3 rfl) ?_
      refine va_zald hx hb hK hP 1 2 rfl rfl hw.1 dX10_firstWith_12 ?_
      have hw := hw.2
      refine lv_if_ne (tgt := 34) hx hb dX10_firstWith_13 (by decide) (fun c3 => ?_) (fun c4 => ?_)
      · have hw := hw.1 c3
        obtain ⟨x5, ex5⟩ : ∃ y : Int32, y = v3 + (1 : Int32) := ⟨_, rfl⟩
        have hw := hw x5 ex5
        refine lv_iinc (v := x5) (lv' := [(3, .int x5), (0, .ref h_p0), (1, .int v1), (2, .int v2)]) hx hb dX10_firstWith_34 hl (k := 3) rfl (by rw [ex5]; rfl) (by decide) rfl (fun ls hl => ?_)
        refine lv_goto (tgt := 2) hx hb dX10_firstWith_37 (by decide) ?_
        exact ih _ hw _ _ _ hP hD hS (lv_sub hl [1, 2, 3, 0] rfl)
      · have hw := hw.2 c4
        refine lv_aload_n hx hb dX10_firstWith_16 rfl (lv_at hl 0 rfl) ?_
        refine va_get (D := (dC, dI)) (ci := 10) (v := .ref (ad_p0 40)) (C := RX10) (T := TX10) (N := 50) hx hb hts iX10 hown hK hP 0 rfl rfl 40 (by decide) (hts (.fieldLink RX10 102 "NetHouseModel" "rows" "[J") (by decide +kernel)) (fun _ h9 => h9) rfl dX10_firstWith_17 ?_
        refine lv_bipush (v := 32) hx hb dX10_firstWith_20 (by decide) ?_
        refine lv_iload_n hx hb dX10_firstWith_22 rfl (lv_at hl 3 rfl) ?_
        refine lv_imul hx hb dX10_firstWith_23 ?_
        refine lv_iload_n hx hb dX10_firstWith_24 rfl (lv_at hl 2 rfl) ?_
        refine lv_iadd hx hb dX10_firstWith_25 ?_
        refine va_lald hx hb hK hP 2 1 rfl rfl hw.1 dX10_firstWith_26 ?_
        have hw := hw.2
        refine lv_lconst (v := 0) hx hb dX10_firstWith_27 (by decide) ?_
        refine W.lcmp hx hb dX10_firstWith_28 ?_
        refine lv_if_eq (tgt := 34) hx hb dX10_firstWith_29 (by decide) (fun c6 => ?_) (fun c7 => ?_)
        · have hw := hw.1 c6
          obtain ⟨x8, ex8⟩ : ∃ y : Int32, y = v3 + (1 : Int32) := ⟨_, rfl⟩
          have hw := hw x8 ex8
          refine lv_iinc (v := x8) (lv' := [(3, .int x8), (0, .ref h_p0), (1, .int v1), (2, .int v2)]) hx hb dX10_firstWith_34 hl (k := 3) rfl (by rw [ex8]; rfl) (by decide) rfl (fun ls hl => ?_)
          refine lv_goto (tgt := 2) hx hb dX10_firstWith_37 (by decide) ?_
          exact ih _ hw _ _ _ hP hD hS (lv_sub hl [1, 2, 3, 0] rfl)
        · have hw := hw.2 c7
          refine lv_iload_n hx hb dX10_firstWith_32 rfl (lv_at hl 3 rfl) ?_
          exact x_iret (w1 := fun (u : Unit) => (wld_X10_firstWith cI cJ cZ h_p0 ad_p0 p0_places p0_steps p0_pastFirst p0_past p0_goings p0_rowSize p0_ways p0_hasField p0_fieldSize p0_faultNow p0_hasTree p0_treeSize p0_weightCount p0_roundCount p0_setCount p0_isOut p0_rows)) hx hb hr hlocks () hw hP hD hS dX10_firstWith_33
set_option maxHeartbeats 4000000 in
set_option maxRecDepth 100000 in
theorem c_X10_firstWith {l : Launch} {dC : Nat → ClassId} {dI : Nat → Nat → Nat} {sz : Nat} {cI cJ cZ : ClassId} {h_p0 : Nat} {ad_p0 : Nat → Nat} {p0_places : Int32} {p0_steps : Int32} {p0_pastFirst : Int32} {p0_past : Int32} {p0_goings : Int32} {p0_rowSize : Int32} {p0_ways : Int32} {p0_hasField : Int32} {p0_fieldSize : Int32} {p0_faultNow : Int32} {p0_hasTree : Int32} {p0_treeSize : Int32} {p0_weightCount : Int32} {p0_roundCount : Int32} {p0_setCount : Int32} {p0_isOut : Nat → Int32} {p0_rows : Nat → Int64} {a1 : Int32} {a2 : Int32} {post : Int32 → Prop} (hw : w_X10_firstWith p0_isOut p0_rows a1 a2 post) : Met l yX10_firstWith wsX10_firstWith ({ frames := 0, cells := 0, slots := 0, locals := 0 }) (va_Pc [.ref h_p0, .int a1, .int a2] (xPre (dC, dI) cI cJ cZ (wld_X10_firstWith cI cJ cZ h_p0 ad_p0 p0_places p0_steps p0_pastFirst p0_past p0_goings p0_rowSize p0_ways p0_hasField p0_fieldSize p0_faultNow p0_hasTree p0_treeSize p0_weightCount p0_roundCount p0_setCount p0_isOut p0_rows) sz)) (q_X10_firstWith dC dI cI cJ cZ h_p0 ad_p0 p0_places p0_steps p0_pastFirst p0_past p0_goings p0_rowSize p0_ways p0_hasField p0_fieldSize p0_faultNow p0_hasTree p0_treeSize p0_weightCount p0_roundCount p0_setCount p0_isOut p0_rows post (va_A (wld_X10_firstWith cI cJ cZ h_p0 ad_p0 p0_places p0_steps p0_pastFirst p0_past p0_goings p0_rowSize p0_ways p0_hasField p0_fieldSize p0_faultNow p0_hasTree p0_treeSize p0_weightCount p0_roundCount p0_setCount p0_isOut p0_rows) sz)) 0 0 (va_A (wld_X10_firstWith cI cJ cZ h_p0 ad_p0 p0_places p0_steps p0_pastFirst p0_past p0_goings p0_rowSize p0_ways p0_hasField p0_fieldSize p0_faultNow p0_hasTree p0_treeSize p0_weightCount p0_roundCount p0_setCount p0_isOut p0_rows) sz) := by
  refine x_met (cc := cX10_firstWith) (maxL := 4) (ret := (some .int)) (own := RX10) (Qc := fun A => (q_X10_firstWith dC dI cI cJ cZ h_p0 ad_p0 p0_places p0_steps p0_pastFirst p0_past p0_goings p0_rowSize p0_ways p0_hasField p0_fieldSize p0_faultNow p0_hasTree p0_treeSize p0_weightCount p0_roundCount p0_setCount p0_isOut p0_rows post A)) (by decide) rfl rfl (Nat.le_of_ble_eq_true rfl) ?_
  intro p e s m args below meth c A ls E0 hP hD hS hl
  obtain ⟨hx, hb, hr, hml, hown, hts, hlocks, hK, hA, n1, n2⟩ := id E0
  have iX10 : ∀ w ∈ u_ws RX10 TX10 50, w ∈ wsX10_firstWith := fun w h => List.mem_cons_of_mem _ (List.mem_append_right _ h)
  have hS0 := hS
  have hl : lv_has ls 4 [(0, .ref h_p0), (1, .int a1), (2, .int a2)] := hl
  unfold w_X10_firstWith at hw
  obtain ⟨H, hH⟩ : ∃ H, H = s.heap := ⟨_, rfl⟩
  have hS : va_S A s.heap H [] := by rw [hH]; exact hS
  have hP : va_P (dC, dI) vwCl (wld_X10_firstWith cI cJ cZ h_p0 ad_p0 p0_places p0_steps p0_pastFirst p0_past p0_goings p0_rowSize p0_ways p0_hasField p0_fieldSize p0_faultNow p0_hasTree p0_treeSize p0_weightCount p0_roundCount p0_setCount p0_isOut p0_rows) H := by rw [hH]; exact hP
  suffices hG : W p l e ({ frames := 0, cells := 0, slots := 0, locals := 0 }) s m args below meth c H [] 0 0 (MQ below (q_X10_firstWith dC dI cI cJ cZ h_p0 ad_p0 p0_places p0_steps p0_pastFirst p0_past p0_goings p0_rowSize p0_ways p0_hasField p0_fieldSize p0_faultNow p0_hasTree p0_treeSize p0_weightCount p0_roundCount p0_setCount p0_isOut p0_rows post A) args s 0 0 A) (F0 m 0 ls []) by rw [hH] at hG; exact hG
  clear hH
  refine lv_iconst (v := 0) hx hb dX10_firstWith_0 (by decide) ?_
  refine lv_istore_n (lv' := [(3, .int (0 : Int32)), (0, .ref h_p0), (1, .int a1), (2, .int a2)]) hx hb dX10_firstWith_1 rfl hl (by decide) rfl (fun ls hl => ?_)
  obtain ⟨n9, hw⟩ := hw
  refine c_X10_firstWith_L2 (l := l)  E0 ?_ n9 _ hw _ _ _ hP hD hS (lv_sub hl [1, 2, 3, 0] rfl)
  · intro v10 H locs ls hw hP hD hS hl
    have hP : va_P (dC, dI) vwCl (wld_X10_firstWith cI cJ cZ h_p0 ad_p0 p0_places p0_steps p0_pastFirst p0_past p0_goings p0_rowSize p0_ways p0_hasField p0_fieldSize p0_faultNow p0_hasTree p0_treeSize p0_weightCount p0_roundCount p0_setCount p0_isOut p0_rows) H := hP
    have hD : va_D A (wld_X10_firstWith cI cJ cZ h_p0 ad_p0 p0_places p0_steps p0_pastFirst p0_past p0_goings p0_rowSize p0_ways p0_hasField p0_fieldSize p0_faultNow p0_hasTree p0_treeSize p0_weightCount p0_roundCount p0_setCount p0_isOut p0_rows) := hD
    refine lv_iconst (v := -1) hx hb dX10_firstWith_40 (by decide) ?_
    exact x_iret (w1 := fun (u : Unit) => (wld_X10_firstWith cI cJ cZ h_p0 ad_p0 p0_places p0_steps p0_pastFirst p0_past p0_goings p0_rowSize p0_ways p0_hasField p0_fieldSize p0_faultNow p0_hasTree p0_treeSize p0_weightCount p0_roundCount p0_setCount p0_isOut p0_rows)) hx hb hr hlocks () hw hP hD hS dX10_firstWith_41
abbrev wld_X10_reduce (cI cJ cZ : ClassId) (h_p0 : Nat) (ad_p0 : Nat → Nat) (p0_places : Int32) (p0_steps : Int32) (p0_pastFirst : Int32) (p0_past : Int32) (p0_goings : Int32) (p0_rowSize : Int32) (p0_ways : Int32) (p0_hasField : Int32) (p0_fieldSize : Int32) (p0_faultNow : Int32) (p0_hasTree : Int32) (p0_treeSize : Int32) (p0_weightCount : Int32) (p0_roundCount : Int32) (p0_setCount : Int32) (p0_isOut : Nat → Int32) (p0_rows : Nat → Int64) : va_W := [(h_p0, .inr (10, [.int p0_places, .int p0_steps, .ref (ad_p0 2), .ref (ad_p0 3), .ref (ad_p0 4), .ref (ad_p0 5), .ref (ad_p0 6), .ref (ad_p0 7), .ref (ad_p0 8), .ref (ad_p0 9), .ref (ad_p0 10), .ref (ad_p0 11), .ref (ad_p0 12), .ref (ad_p0 13), .ref (ad_p0 14), .int p0_pastFirst, .int p0_past, .int p0_goings, .int p0_rowSize, .ref (ad_p0 19), .ref (ad_p0 20), .int p0_ways, .ref (ad_p0 22), .ref (ad_p0 23), .int p0_hasField, .int p0_fieldSize, .ref (ad_p0 26), .ref (ad_p0 27), .ref (ad_p0 28), .ref (ad_p0 29), .ref (ad_p0 30), .ref (ad_p0 31), .ref (ad_p0 32), .int p0_faultNow, .int p0_hasTree, .int p0_treeSize, .ref (ad_p0 36), .ref (ad_p0 37), .ref (ad_p0 38), .ref (ad_p0 39), .ref (ad_p0 40), .ref (ad_p0 41), .ref (ad_p0 42), .int p0_weightCount, .ref (ad_p0 44), .int p0_roundCount, .ref (ad_p0 46), .int p0_setCount, .ref (ad_p0 48), .ref (ad_p0 49)])), ((ad_p0 41), .inl (cZ, 16, .inl p0_isOut)), ((ad_p0 40), .inl (cJ, 512, .inr (.inl p0_rows)))]
abbrev q_X10_reduce (dC : Nat → ClassId) (dI : Nat → Nat → Nat) (cI cJ cZ : ClassId) (h_p0 : Nat) (ad_p0 : Nat → Nat) (p0_places : Int32) (p0_steps : Int32) (p0_pastFirst : Int32) (p0_past : Int32) (p0_goings : Int32) (p0_rowSize : Int32) (p0_ways : Int32) (p0_hasField : Int32) (p0_fieldSize : Int32) (p0_faultNow : Int32) (p0_hasTree : Int32) (p0_treeSize : Int32) (p0_weightCount : Int32) (p0_roundCount : Int32) (p0_setCount : Int32) (p0_isOut : Nat → Int32) (p0_rows : Nat → Int64) (post : Int32 → (Nat → Int32) → (Nat → Int64) → Prop) (A : Nat → Prop) : Array Value → State → Outcome → State → Prop := va_Qi (fun r (u : (Nat → Int32) × (Nat → Int64)) => post r (u.1) (u.2)) (fun (u : (Nat → Int32) × (Nat → Int64)) t => xPost (dC, dI) A (wld_X10_reduce cI cJ cZ h_p0 ad_p0 p0_places p0_steps p0_pastFirst p0_past p0_goings p0_rowSize p0_ways p0_hasField p0_fieldSize p0_faultNow p0_hasTree p0_treeSize p0_weightCount p0_roundCount p0_setCount (u.1) (u.2)) t) A
def w_X10_reduce_L31b (v1 : Int32) (v2 : Int32) (v3 : Int32) (v4 : Int32) (p0_isOut : Nat → Int32) (post : Int32 → (Nat → Int32) → (Nat → Int64) → Prop) (K : (Int32) → (Nat → Int64) → Prop) (rec : (Int32) → (Nat → Int64) → Prop) (v5 : Int32) (p0_rows : Nat → Int64) : Prop :=
    (v1 ≤ v5 →
      K v5 p0_rows) ∧
    (¬ v1 ≤ v5 →
      vp_in v5 16 ∧
      (¬ (p0_isOut v5.toNatClampNeg) = 0 →
        ∀ x11 : Int32, x11 = v5 + (1 : Int32) →
        rec x11 p0_rows) ∧
      ((p0_isOut v5.toNatClampNeg) = 0 →
        vp_in (((32 : Int32) * v5) + v3) 512 ∧
        ((lg_cmp (p0_rows (((32 : Int32) * v5) + v3).toNatClampNeg) (0 : Int64)) = 0 →
          ∀ x14 : Int32, x14 = v5 + (1 : Int32) →
          rec x14 p0_rows) ∧
        (¬ (lg_cmp (p0_rows (((32 : Int32) * v5) + v3).toNatClampNeg) (0 : Int64)) = 0 →
          w_X10_lessened p0_rows v5 v4 v3 (fun r15 y16 =>
          (¬ r15 = 0 →
            ∀ x19 : Int32, x19 = v5 + (1 : Int32) →
            rec x19 y16) ∧
          (r15 = 0 →
            (post (0 : Int32) p0_isOut y16))))))
def w_X10_reduce_L31 (v1 : Int32) (v2 : Int32) (v3 : Int32) (v4 : Int32) (p0_isOut : Nat → Int32) (post : Int32 → (Nat → Int32) → (Nat → Int64) → Prop) (K : (Int32) → (Nat → Int64) → Prop) : Nat → (Int32) → (Nat → Int64) → Prop
  | 0, _, _ => False
  | n + 1, v5, p0_rows => w_X10_reduce_L31b v1 v2 v3 v4 p0_isOut post K (w_X10_reduce_L31 v1 v2 v3 v4 p0_isOut post K n) v5 p0_rows
def w_X10_reduce_L2b (v1 : Int32) (v2 : Int32) (post : Int32 → (Nat → Int32) → (Nat → Int64) → Prop) (K : (Int32) → (Nat → Int32) → (Nat → Int64) → Prop) (rec : (Int32) → (Nat → Int32) → (Nat → Int64) → Prop) (v3 : Int32) (p0_isOut : Nat → Int32) (p0_rows : Nat → Int64) : Prop :=
    (v2 ≤ v3 →
      K v3 p0_isOut p0_rows) ∧
    (¬ v2 ≤ v3 →
      w_X10_firstWith p0_isOut p0_rows v1 v3 (fun r3 =>
      (r3 < 0 →
        ∀ x6 : Int32, x6 = v3 + (1 : Int32) →
        rec x6 p0_isOut p0_rows) ∧
      (¬ r3 < 0 →
        vp_in r3 16 ∧
        ∃ n : Nat, w_X10_reduce_L31 v1 v2 v3 r3 (upd p0_isOut r3.toNatClampNeg (vp_nar .boolean (1 : Int32))) post (fun v21 s22 =>
            ∀ x23 : Int32, x23 = v3 + (1 : Int32) →
            rec x23 (upd p0_isOut r3.toNatClampNeg (vp_nar .boolean (1 : Int32))) s22) n (0 : Int32) p0_rows)))
def w_X10_reduce_L2 (v1 : Int32) (v2 : Int32) (post : Int32 → (Nat → Int32) → (Nat → Int64) → Prop) (K : (Int32) → (Nat → Int32) → (Nat → Int64) → Prop) : Nat → (Int32) → (Nat → Int32) → (Nat → Int64) → Prop
  | 0, _, _, _ => False
  | n + 1, v3, p0_isOut, p0_rows => w_X10_reduce_L2b v1 v2 post K (w_X10_reduce_L2 v1 v2 post K n) v3 p0_isOut p0_rows
def w_X10_reduce (p0_isOut : Nat → Int32) (p0_rows : Nat → Int64) (a1 : Int32) (a2 : Int32) (post : Int32 → (Nat → Int32) → (Nat → Int64) → Prop) : Prop :=
  ∃ n : Nat, w_X10_reduce_L2 a1 a2 post (fun v25 s26 s27 =>
      (post (1 : Int32) s26 s27)) n (0 : Int32) p0_isOut p0_rows
set_option maxHeartbeats 4000000 in
set_option maxRecDepth 100000 in
theorem c_X10_reduce_L31 {p : Program} {l : Launch} {e : Env} {s : State} {m : MethodId} {args : Array Value} {below : List Frame} {meth : Method} {c : Code} {dC : Nat → ClassId} {dI : Nat → Nat → Nat} {A : Nat → Prop} {cI cJ cZ : ClassId} {h_p0 : Nat} {ad_p0 : Nat → Nat} {p0_places : Int32} {p0_steps : Int32} {p0_pastFirst : Int32} {p0_past : Int32} {p0_goings : Int32} {p0_rowSize : Int32} {p0_ways : Int32} {p0_hasField : Int32} {p0_fieldSize : Int32} {p0_faultNow : Int32} {p0_hasTree : Int32} {p0_treeSize : Int32} {p0_weightCount : Int32} {p0_roundCount : Int32} {p0_setCount : Int32} {p0_isOut : Nat → Int32} {v1 : Int32} {v2 : Int32} {v3 : Int32} {v4 : Int32} {z_p0_rows : Nat → Int64} {post : Int32 → (Nat → Int32) → (Nat → Int64) → Prop} {K : (Int32) → (Nat → Int64) → Prop} (E0 : xEnv p s m args meth c cX10_reduce (some .boolean) 6 RX10 wsX10_reduce (dC, dI) cI cJ cZ A) (hk : ∀ (v5 : Int32) (p0_rows : Nat → Int64) (H : Heap) (locs : List Loc) (ls : Array Slot), K v5 p0_rows → va_P (dC, dI) vwCl (wld_X10_reduce cI cJ cZ h_p0 ad_p0 p0_places p0_steps p0_pastFirst p0_past p0_goings p0_rowSize p0_ways p0_hasField p0_fieldSize p0_faultNow p0_hasTree p0_treeSize p0_weightCount p0_roundCount p0_setCount p0_isOut p0_rows) H → va_D A (wld_X10_reduce cI cJ cZ h_p0 ad_p0 p0_places p0_steps p0_pastFirst p0_past p0_goings p0_rowSize p0_ways p0_hasField p0_fieldSize p0_faultNow p0_hasTree p0_treeSize p0_weightCount p0_roundCount p0_setCount p0_isOut p0_rows) → va_S A s.heap H locs → lv_has ls 6 [(0, .ref h_p0), (1, .int v1), (2, .int v2), (3, .int v3)] → W p l e ({ frames := 2, cells := 0, slots := 0, locals := 60 }) s m args below meth c H locs 0 0 (MQ below (q_X10_reduce dC dI cI cJ cZ h_p0 ad_p0 p0_places p0_steps p0_pastFirst p0_past p0_goings p0_rowSize p0_ways p0_hasField p0_fieldSize p0_faultNow p0_hasTree p0_treeSize p0_weightCount p0_roundCount p0_setCount p0_isOut z_p0_rows post A) args s 0 0 A) (F0 m 84 ls [])) : ∀ (n : Nat) (v5 : Int32) (p0_rows : Nat → Int64), w_X10_reduce_L31 v1 v2 v3 v4 p0_isOut post K n v5 p0_rows → ∀ (H : Heap) (locs : List Loc) (ls : Array Slot), va_P (dC, dI) vwCl (wld_X10_reduce cI cJ cZ h_p0 ad_p0 p0_places p0_steps p0_pastFirst p0_past p0_goings p0_rowSize p0_ways p0_hasField p0_fieldSize p0_faultNow p0_hasTree p0_treeSize p0_weightCount p0_roundCount p0_setCount p0_isOut p0_rows) H → va_D A (wld_X10_reduce cI cJ cZ h_p0 ad_p0 p0_places p0_steps p0_pastFirst p0_past p0_goings p0_rowSize p0_ways p0_hasField p0_fieldSize p0_faultNow p0_hasTree p0_treeSize p0_weightCount p0_roundCount p0_setCount p0_isOut p0_rows) → va_S A s.heap H locs → lv_has ls 6 [(0, .ref h_p0), (1, .int v1), (2, .int v2), (3, .int v3), (4, .int v4), (5, .int v5)] → W p l e ({ frames := 2, cells := 0, slots := 0, locals := 60 }) s m args below meth c H locs 0 0 (MQ below (q_X10_reduce dC dI cI cJ cZ h_p0 ad_p0 p0_places p0_steps p0_pastFirst p0_past p0_goings p0_rowSize p0_ways p0_hasField p0_fieldSize p0_faultNow p0_hasTree p0_treeSize p0_weightCount p0_roundCount p0_setCount p0_isOut z_p0_rows post A) args s 0 0 A) (F0 m 31 ls []) := by
  obtain ⟨hx, hb, hr, hml, hown, hts, hlocks, hK, hA, n1, n2⟩ := id E0
  have iX10 : ∀ w ∈ u_ws RX10 TX10 50, w ∈ wsX10_reduce := fun w h => List.mem_cons_of_mem _ (List.mem_append_right _ h)
  intro n
  induction n with
  | zero => intro v5 p0_rows hw; exact hw.elim
  | succ n ih =>
    intro v5 p0_rows hw H locs ls hP hD hS hl
    have hw : w_X10_reduce_L31b v1 v2 v3 v4 p0_isOut post K (w_X10_reduce_L31 v1 v2 v3 v4 p0_isOut post K n) v5 p0_rows := hw
    unfold w_X10_reduce_L31b at hw
    refine lv_iload hx hb dX10_reduce_31 (lv_at hl 5 rfl) ?_
    refine lv_iload_n hx hb dX10_reduce_33 rfl (lv_at hl 1 rfl) ?_
    refine lv_icmp_ge (tgt := 84) hx hb dX10_reduce_34 (by decide) (fun c7 => ?_) (fun c8 => ?_)
    · have hw := hw.1 c7
      exact hk _ _ _ _ _ hw hP hD hS (lv_sub hl [0, 1, 2, 3] rfl)
    · have hw := hw.2 c8
      refine lv_aload_n hx hb dX10_reduce_37 rfl (lv_at hl 0 rfl) ?_
      refine va_get (D := (dC, dI)) (ci := 10) (v := .ref (ad_p0 41)) (C := RX10) (T := TX10) (N := 50) hx hb hts iX10 hown hK hP 0 rfl rfl 41 (by decide) (hts (.fieldLink RX10 106 "NetHouseModel" "isOut" "[Z") (by decide +kernel)) (fun _ h9 => h9) rfl dX10_reduce_38 ?_
      refine lv_iload hx hb dX10_reduce_41 (lv_at hl 5 rfl) ?_
      refine va_zald hx hb hK hP 1 2 rfl rfl hw.1 dX10_reduce_43 ?_
      have hw := hw.2
      refine lv_if_ne (tgt := 78) hx hb dX10_reduce_44 (by decide) (fun c9 => ?_) (fun c10 => ?_)
      · have hw := hw.1 c9
        obtain ⟨x11, ex11⟩ : ∃ y : Int32, y = v5 + (1 : Int32) := ⟨_, rfl⟩
        have hw := hw x11 ex11
        refine lv_iinc (v := x11) (lv' := [(5, .int x11), (0, .ref h_p0), (1, .int v1), (2, .int v2), (3, .int v3), (4, .int v4)]) hx hb dX10_reduce_78 hl (k := 5) rfl (by rw [ex11]; rfl) (by decide) rfl (fun ls hl => ?_)
        refine lv_goto (tgt := 31) hx hb dX10_reduce_81 (by decide) ?_
        exact ih _ _ hw _ _ _ hP hD hS (lv_sub hl [1, 2, 3, 4, 5, 0] rfl)
      · have hw := hw.2 c10
        refine lv_aload_n hx hb dX10_reduce_47 rfl (lv_at hl 0 rfl) ?_
        refine va_get (D := (dC, dI)) (ci := 10) (v := .ref (ad_p0 40)) (C := RX10) (T := TX10) (N := 50) hx hb hts iX10 hown hK hP 0 rfl rfl 40 (by decide) (hts (.fieldLink RX10 102 "NetHouseModel" "rows" "[J") (by decide +kernel)) (fun _ h9 => h9) rfl dX10_reduce_48 ?_
        refine lv_bipush (v := 32) hx hb dX10_reduce_51 (by decide) ?_
        refine lv_iload hx hb dX10_reduce_53 (lv_at hl 5 rfl) ?_
        refine lv_imul hx hb dX10_reduce_55 ?_
        refine lv_iload_n hx hb dX10_reduce_56 rfl (lv_at hl 3 rfl) ?_
        refine lv_iadd hx hb dX10_reduce_57 ?_
        refine va_lald hx hb hK hP 2 1 rfl rfl hw.1 dX10_reduce_58 ?_
        have hw := hw.2
        refine lv_lconst (v := 0) hx hb dX10_reduce_59 (by decide) ?_
        refine W.lcmp hx hb dX10_reduce_60 ?_
        refine lv_if_eq (tgt := 78) hx hb dX10_reduce_61 (by decide) (fun c12 => ?_) (fun c13 => ?_)
        · have hw := hw.1 c12
          obtain ⟨x14, ex14⟩ : ∃ y : Int32, y = v5 + (1 : Int32) := ⟨_, rfl⟩
          have hw := hw x14 ex14
          refine lv_iinc (v := x14) (lv' := [(5, .int x14), (0, .ref h_p0), (1, .int v1), (2, .int v2), (3, .int v3), (4, .int v4)]) hx hb dX10_reduce_78 hl (k := 5) rfl (by rw [ex14]; rfl) (by decide) rfl (fun ls hl => ?_)
          refine lv_goto (tgt := 31) hx hb dX10_reduce_81 (by decide) ?_
          exact ih _ _ hw _ _ _ hP hD hS (lv_sub hl [1, 2, 3, 4, 5, 0] rfl)
        · have hw := hw.2 c13
          refine lv_aload_n hx hb dX10_reduce_64 rfl (lv_at hl 0 rfl) ?_
          refine lv_iload hx hb dX10_reduce_65 (lv_at hl 5 rfl) ?_
          refine lv_iload hx hb dX10_reduce_67 (lv_at hl 4 rfl) ?_
          refine lv_iload_n hx hb dX10_reduce_69 rfl (lv_at hl 3 rfl) ?_
          obtain ⟨hPc, hDc⟩ := x_sub (wc := (wld_X10_lessened cI cJ cZ h_p0 ad_p0 p0_places p0_steps p0_pastFirst p0_past p0_goings p0_rowSize p0_ways p0_hasField p0_fieldSize p0_faultNow p0_hasTree p0_treeSize p0_weightCount p0_roundCount p0_setCount p0_rows)) hP hD [0, 2] (n := 3) rfl rfl (by decide +kernel)
          refine x_calli (ws' := fun (u : (Nat → Int64)) => (wld_X10_reduce cI cJ cZ h_p0 ad_p0 p0_places p0_steps p0_pastFirst p0_past p0_goings p0_rowSize p0_ways p0_hasField p0_fieldSize p0_faultNow p0_hasTree p0_treeSize p0_weightCount p0_roundCount p0_setCount p0_isOut u)) hP hD hS hA [0, 2] [1] [1, 0, 2] (n := 3) (k := 2) rfl (fun _ => rfl) rfl (by decide +kernel) (fun _ => rfl) (va_runV (As := [.int v5, .int v4, .int v3]) (rest := []) ⟨hx, hb, hml, hown, hts⟩ (c_X10_lessened (l := l) (dC := dC) (dI := dI) (cI := cI) (cJ := cJ) (cZ := cZ) (sz := H.size) (h_p0 := h_p0) (ad_p0 := ad_p0) (p0_places := p0_places) (p0_steps := p0_steps) (p0_pastFirst := p0_pastFirst) (p0_past := p0_past) (p0_goings := p0_goings) (p0_rowSize := p0_rowSize) (p0_ways := p0_ways) (p0_hasField := p0_hasField) (p0_fieldSize := p0_fieldSize) (p0_faultNow := p0_faultNow) (p0_hasTree := p0_hasTree) (p0_treeSize := p0_treeSize) (p0_weightCount := p0_weightCount) (p0_roundCount := p0_roundCount) (p0_setCount := p0_setCount) (p0_rows := p0_rows) hw) (cwV 3 hts gX10_reduce_X10_lessened rfl rfl rfl (by decide +kernel) ⟨Nat.le_of_ble_eq_true rfl, Nat.le_of_ble_eq_true rfl⟩) ⟨xPre_blind, va_recv hK hP (ci := 10) (q0 := 0) rfl rfl, xPre_at hK hPc hDc n1 n2⟩ rfl rfl hl.1 rfl (lv_room (Nat.le_of_ble_eq_true rfl)) dX10_reduce_70 ⟨Nat.zero_le _, Nat.zero_le _⟩) (fun r15 u H locs hw hP hD hS => ?_)
          obtain ⟨y16, rfl⟩ : ∃ z, z = u := ⟨_, rfl⟩
          try dsimp only at hw
          have hP : va_P (dC, dI) vwCl (wld_X10_reduce cI cJ cZ h_p0 ad_p0 p0_places p0_steps p0_pastFirst p0_past p0_goings p0_rowSize p0_ways p0_hasField p0_fieldSize p0_faultNow p0_hasTree p0_treeSize p0_weightCount p0_roundCount p0_setCount p0_isOut y16) H := hP
          have hD : va_D A (wld_X10_reduce cI cJ cZ h_p0 ad_p0 p0_places p0_steps p0_pastFirst p0_past p0_goings p0_rowSize p0_ways p0_hasField p0_fieldSize p0_faultNow p0_hasTree p0_treeSize p0_weightCount p0_roundCount p0_setCount p0_isOut y16) := hD
          refine lv_if_ne (tgt := 78) hx hb dX10_reduce_73 (by decide) (fun c17 => ?_) (fun c18 => ?_)
          · have hw := hw.1 c17
            obtain ⟨x19, ex19⟩ : ∃ y : Int32, y = v5 + (1 : Int32) := ⟨_, rfl⟩
            have hw := hw x19 ex19
            refine lv_iinc (v := x19) (lv' := [(5, .int x19), (0, .ref h_p0), (1, .int v1), (2, .int v2), (3, .int v3), (4, .int v4)]) hx hb dX10_reduce_78 hl (k := 5) rfl (by rw [ex19]; rfl) (by decide) rfl (fun ls hl => ?_)
            refine lv_goto (tgt := 31) hx hb dX10_reduce_81 (by decide) ?_
            exact ih _ _ hw _ _ _ hP hD hS (lv_sub hl [1, 2, 3, 4, 5, 0] rfl)
          · have hw := hw.2 c18
            refine lv_iconst (v := 0) hx hb dX10_reduce_76 (by decide) ?_
            exact x_zret (w1 := fun (u : (Nat → Int32) × (Nat → Int64)) => (wld_X10_reduce cI cJ cZ h_p0 ad_p0 p0_places p0_steps p0_pastFirst p0_past p0_goings p0_rowSize p0_ways p0_hasField p0_fieldSize p0_faultNow p0_hasTree p0_treeSize p0_weightCount p0_roundCount p0_setCount (u.1) (u.2))) hx hb hr hlocks (by decide) (p0_isOut, y16) hw hP hD hS dX10_reduce_77
set_option maxHeartbeats 4000000 in
set_option maxRecDepth 100000 in
theorem c_X10_reduce_L2 {p : Program} {l : Launch} {e : Env} {s : State} {m : MethodId} {args : Array Value} {below : List Frame} {meth : Method} {c : Code} {dC : Nat → ClassId} {dI : Nat → Nat → Nat} {A : Nat → Prop} {cI cJ cZ : ClassId} {h_p0 : Nat} {ad_p0 : Nat → Nat} {p0_places : Int32} {p0_steps : Int32} {p0_pastFirst : Int32} {p0_past : Int32} {p0_goings : Int32} {p0_rowSize : Int32} {p0_ways : Int32} {p0_hasField : Int32} {p0_fieldSize : Int32} {p0_faultNow : Int32} {p0_hasTree : Int32} {p0_treeSize : Int32} {p0_weightCount : Int32} {p0_roundCount : Int32} {p0_setCount : Int32} {v1 : Int32} {v2 : Int32} {z_p0_isOut : Nat → Int32} {z_p0_rows : Nat → Int64} {post : Int32 → (Nat → Int32) → (Nat → Int64) → Prop} {K : (Int32) → (Nat → Int32) → (Nat → Int64) → Prop} (E0 : xEnv p s m args meth c cX10_reduce (some .boolean) 6 RX10 wsX10_reduce (dC, dI) cI cJ cZ A) (hk : ∀ (v3 : Int32) (p0_isOut : Nat → Int32) (p0_rows : Nat → Int64) (H : Heap) (locs : List Loc) (ls : Array Slot), K v3 p0_isOut p0_rows → va_P (dC, dI) vwCl (wld_X10_reduce cI cJ cZ h_p0 ad_p0 p0_places p0_steps p0_pastFirst p0_past p0_goings p0_rowSize p0_ways p0_hasField p0_fieldSize p0_faultNow p0_hasTree p0_treeSize p0_weightCount p0_roundCount p0_setCount p0_isOut p0_rows) H → va_D A (wld_X10_reduce cI cJ cZ h_p0 ad_p0 p0_places p0_steps p0_pastFirst p0_past p0_goings p0_rowSize p0_ways p0_hasField p0_fieldSize p0_faultNow p0_hasTree p0_treeSize p0_weightCount p0_roundCount p0_setCount p0_isOut p0_rows) → va_S A s.heap H locs → lv_has ls 6 [] → W p l e ({ frames := 2, cells := 0, slots := 0, locals := 60 }) s m args below meth c H locs 0 0 (MQ below (q_X10_reduce dC dI cI cJ cZ h_p0 ad_p0 p0_places p0_steps p0_pastFirst p0_past p0_goings p0_rowSize p0_ways p0_hasField p0_fieldSize p0_faultNow p0_hasTree p0_treeSize p0_weightCount p0_roundCount p0_setCount z_p0_isOut z_p0_rows post A) args s 0 0 A) (F0 m 90 ls [])) : ∀ (n : Nat) (v3 : Int32) (p0_isOut : Nat → Int32) (p0_rows : Nat → Int64), w_X10_reduce_L2 v1 v2 post K n v3 p0_isOut p0_rows → ∀ (H : Heap) (locs : List Loc) (ls : Array Slot), va_P (dC, dI) vwCl (wld_X10_reduce cI cJ cZ h_p0 ad_p0 p0_places p0_steps p0_pastFirst p0_past p0_goings p0_rowSize p0_ways p0_hasField p0_fieldSize p0_faultNow p0_hasTree p0_treeSize p0_weightCount p0_roundCount p0_setCount p0_isOut p0_rows) H → va_D A (wld_X10_reduce cI cJ cZ h_p0 ad_p0 p0_places p0_steps p0_pastFirst p0_past p0_goings p0_rowSize p0_ways p0_hasField p0_fieldSize p0_faultNow p0_hasTree p0_treeSize p0_weightCount p0_roundCount p0_setCount p0_isOut p0_rows) → va_S A s.heap H locs → lv_has ls 6 [(0, .ref h_p0), (1, .int v1), (2, .int v2), (3, .int v3)] → W p l e ({ frames := 2, cells := 0, slots := 0, locals := 60 }) s m args below meth c H locs 0 0 (MQ below (q_X10_reduce dC dI cI cJ cZ h_p0 ad_p0 p0_places p0_steps p0_pastFirst p0_past p0_goings p0_rowSize p0_ways p0_hasField p0_fieldSize p0_faultNow p0_hasTree p0_treeSize p0_weightCount p0_roundCount p0_setCount z_p0_isOut z_p0_rows post A) args s 0 0 A) (F0 m 2 ls []) := by
  obtain ⟨hx, hb, hr, hml, hown, hts, hlocks, hK, hA, n1, n2⟩ := id E0
  have iX10 : ∀ w ∈ u_ws RX10 TX10 50, w ∈ wsX10_reduce := fun w h => List.mem_cons_of_mem _ (List.mem_append_right _ h)
  intro n
  induction n with
  | zero => intro v3 p0_isOut p0_rows hw; exact hw.elim
  | succ n ih =>
    intro v3 p0_isOut p0_rows hw H locs ls hP hD hS hl
    have hw : w_X10_reduce_L2b v1 v2 post K (w_X10_reduce_L2 v1 v2 post K n) v3 p0_isOut p0_rows := hw
    unfold w_X10_reduce_L2b at hw
    refine lv_iload_n hx hb dX10_reduce_2 rfl (lv_at hl 3 rfl) ?_
    refine lv_iload_n hx hb dX10_reduce_3 rfl (lv_at hl 2 rfl) ?_
    refine lv_icmp_ge (tgt := 90) hx hb dX10_reduce_4 (by decide) (fun c1 => ?_) (fun c2 => ?_)
    · have hw := hw.1 c1
      exact hk _ _ _ _ _ _ hw hP hD hS (lv_sub hl [] rfl)
    · have hw := hw.2 c2
      refine lv_aload_n hx hb dX10_reduce_7 rfl (lv_at hl 0 rfl) ?_
      refine lv_iload_n hx hb dX10_reduce_8 rfl (lv_at hl 1 rfl) ?_
      refine lv_iload_n hx hb dX10_reduce_9 rfl (lv_at hl 3 rfl) ?_
      obtain ⟨hPc, hDc⟩ := x_sub (wc := (wld_X10_firstWith cI cJ cZ h_p0 ad_p0 p0_places p0_steps p0_pastFirst p0_past p0_goings p0_rowSize p0_ways p0_hasField p0_fieldSize p0_faultNow p0_hasTree p0_treeSize p0_weightCount p0_roundCount p0_setCount p0_isOut p0_rows)) hP hD [0, 1, 2] (n := 3) rfl rfl (by decide +kernel)
      refine x_calli (ws' := fun (u : Unit) => (wld_X10_reduce cI cJ cZ h_p0 ad_p0 p0_places p0_steps p0_pastFirst p0_past p0_goings p0_rowSize p0_ways p0_hasField p0_fieldSize p0_faultNow p0_hasTree p0_treeSize p0_weightCount p0_roundCount p0_setCount p0_isOut p0_rows)) hP hD hS hA [0, 1, 2] [] [0, 1, 2] (n := 3) (k := 3) rfl (fun _ => rfl) rfl (by decide +kernel) (fun _ => rfl) (va_runV (As := [.int v1, .int v3]) (rest := []) ⟨hx, hb, hml, hown, hts⟩ (c_X10_firstWith (l := l) (dC := dC) (dI := dI) (cI := cI) (cJ := cJ) (cZ := cZ) (sz := H.size) (h_p0 := h_p0) (ad_p0 := ad_p0) (p0_places := p0_places) (p0_steps := p0_steps) (p0_pastFirst := p0_pastFirst) (p0_past := p0_past) (p0_goings := p0_goings) (p0_rowSize := p0_rowSize) (p0_ways := p0_ways) (p0_hasField := p0_hasField) (p0_fieldSize := p0_fieldSize) (p0_faultNow := p0_faultNow) (p0_hasTree := p0_hasTree) (p0_treeSize := p0_treeSize) (p0_weightCount := p0_weightCount) (p0_roundCount := p0_roundCount) (p0_setCount := p0_setCount) (p0_isOut := p0_isOut) (p0_rows := p0_rows) hw) (cwV 2 hts gX10_reduce_X10_firstWith rfl rfl rfl (by decide +kernel) ⟨Nat.le_of_ble_eq_true rfl, Nat.le_of_ble_eq_true rfl⟩) ⟨xPre_blind, va_recv hK hP (ci := 10) (q0 := 0) rfl rfl, xPre_at hK hPc hDc n1 n2⟩ rfl rfl hl.1 rfl (lv_room (Nat.le_of_ble_eq_true rfl)) dX10_reduce_10 ⟨Nat.zero_le _, Nat.zero_le _⟩) (fun r3 u H locs hw hP hD hS => ?_)
      try dsimp only at hw
      have hP : va_P (dC, dI) vwCl (wld_X10_reduce cI cJ cZ h_p0 ad_p0 p0_places p0_steps p0_pastFirst p0_past p0_goings p0_rowSize p0_ways p0_hasField p0_fieldSize p0_faultNow p0_hasTree p0_treeSize p0_weightCount p0_roundCount p0_setCount p0_isOut p0_rows) H := hP
      have hD : va_D A (wld_X10_reduce cI cJ cZ h_p0 ad_p0 p0_places p0_steps p0_pastFirst p0_past p0_goings p0_rowSize p0_ways p0_hasField p0_fieldSize p0_faultNow p0_hasTree p0_treeSize p0_weightCount p0_roundCount p0_setCount p0_isOut p0_rows) := hD
      refine lv_istore (lv' := [(4, .int r3), (0, .ref h_p0), (1, .int v1), (2, .int v2), (3, .int v3)]) hx hb dX10_reduce_13 hl (by decide) rfl (fun ls hl => ?_)
      refine lv_iload hx hb dX10_reduce_15 (lv_at hl 0 rfl) ?_
      refine lv_if_lt (tgt := 84) hx hb dX10_reduce_17 (by decide) (fun c4 => ?_) (fun c5 => ?_)
      · have hw := hw.1 c4
        obtain ⟨x6, ex6⟩ : ∃ y : Int32, y = v3 + (1 : Int32) := ⟨_, rfl⟩
        have hw := hw x6 ex6
        refine lv_iinc (v := x6) (lv' := [(3, .int x6), (4, .int r3), (0, .ref h_p0), (1, .int v1), (2, .int v2)]) hx hb dX10_reduce_84 hl (k := 4) rfl (by rw [ex6]; rfl) (by decide) rfl (fun ls hl => ?_)
        refine lv_goto (tgt := 2) hx hb dX10_reduce_87 (by decide) ?_
        exact ih _ _ _ hw _ _ _ hP hD hS (lv_sub hl [2, 3, 4, 0] rfl)
      · have hw := hw.2 c5
        refine lv_aload_n hx hb dX10_reduce_20 rfl (lv_at hl 1 rfl) ?_
        refine va_get (D := (dC, dI)) (ci := 10) (v := .ref (ad_p0 41)) (C := RX10) (T := TX10) (N := 50) hx hb hts iX10 hown hK hP 0 rfl rfl 41 (by decide) (hts (.fieldLink RX10 106 "NetHouseModel" "isOut" "[Z") (by decide +kernel)) (fun _ h9 => h9) rfl dX10_reduce_21 ?_
        refine lv_iload hx hb dX10_reduce_24 (lv_at hl 0 rfl) ?_
        refine lv_iconst (v := 1) hx hb dX10_reduce_26 (by decide) ?_
        refine va_zast hx hb hK hP hD hS 1 2 rfl rfl hw.1 dX10_reduce_27 (fun H locs hP hD hS => ?_)
        have hw := hw.2
        have hP : va_P (dC, dI) vwCl (wld_X10_reduce cI cJ cZ h_p0 ad_p0 p0_places p0_steps p0_pastFirst p0_past p0_goings p0_rowSize p0_ways p0_hasField p0_fieldSize p0_faultNow p0_hasTree p0_treeSize p0_weightCount p0_roundCount p0_setCount (upd p0_isOut r3.toNatClampNeg (vp_nar .boolean (1 : Int32))) p0_rows) H := hP
        have hD : va_D A (wld_X10_reduce cI cJ cZ h_p0 ad_p0 p0_places p0_steps p0_pastFirst p0_past p0_goings p0_rowSize p0_ways p0_hasField p0_fieldSize p0_faultNow p0_hasTree p0_treeSize p0_weightCount p0_roundCount p0_setCount (upd p0_isOut r3.toNatClampNeg (vp_nar .boolean (1 : Int32))) p0_rows) := hD
        refine lv_iconst (v := 0) hx hb dX10_reduce_28 (by decide) ?_
        refine lv_istore (lv' := [(5, .int (0 : Int32)), (4, .int r3), (0, .ref h_p0), (1, .int v1), (2, .int v2), (3, .int v3)]) hx hb dX10_reduce_29 hl (by decide) rfl (fun ls hl => ?_)
        obtain ⟨n20, hw⟩ := hw
        refine c_X10_reduce_L31 (l := l) (z_p0_rows := p0_rows) E0 ?_ n20 _ _ hw _ _ _ hP hD hS (lv_sub hl [2, 3, 4, 5, 1, 0] rfl)
        · intro v21 s22 H locs ls hw hP hD hS hl
          have hP : va_P (dC, dI) vwCl (wld_X10_reduce cI cJ cZ h_p0 ad_p0 p0_places p0_steps p0_pastFirst p0_past p0_goings p0_rowSize p0_ways p0_hasField p0_fieldSize p0_faultNow p0_hasTree p0_treeSize p0_weightCount p0_roundCount p0_setCount (upd p0_isOut r3.toNatClampNeg (vp_nar .boolean (1 : Int32))) s22) H := hP
          have hD : va_D A (wld_X10_reduce cI cJ cZ h_p0 ad_p0 p0_places p0_steps p0_pastFirst p0_past p0_goings p0_rowSize p0_ways p0_hasField p0_fieldSize p0_faultNow p0_hasTree p0_treeSize p0_weightCount p0_roundCount p0_setCount (upd p0_isOut r3.toNatClampNeg (vp_nar .boolean (1 : Int32))) s22) := hD
          obtain ⟨x23, ex23⟩ : ∃ y : Int32, y = v3 + (1 : Int32) := ⟨_, rfl⟩
          have hw := hw x23 ex23
          refine lv_iinc (v := x23) (lv' := [(3, .int x23), (0, .ref h_p0), (1, .int v1), (2, .int v2)]) hx hb dX10_reduce_84 hl (k := 3) rfl (by rw [ex23]; rfl) (by decide) rfl (fun ls hl => ?_)
          refine lv_goto (tgt := 2) hx hb dX10_reduce_87 (by decide) ?_
          exact ih _ _ _ hw _ _ _ hP hD hS (lv_sub hl [1, 2, 3, 0] rfl)
set_option maxHeartbeats 4000000 in
set_option maxRecDepth 100000 in
theorem c_X10_reduce {l : Launch} {dC : Nat → ClassId} {dI : Nat → Nat → Nat} {sz : Nat} {cI cJ cZ : ClassId} {h_p0 : Nat} {ad_p0 : Nat → Nat} {p0_places : Int32} {p0_steps : Int32} {p0_pastFirst : Int32} {p0_past : Int32} {p0_goings : Int32} {p0_rowSize : Int32} {p0_ways : Int32} {p0_hasField : Int32} {p0_fieldSize : Int32} {p0_faultNow : Int32} {p0_hasTree : Int32} {p0_treeSize : Int32} {p0_weightCount : Int32} {p0_roundCount : Int32} {p0_setCount : Int32} {p0_isOut : Nat → Int32} {p0_rows : Nat → Int64} {a1 : Int32} {a2 : Int32} {post : Int32 → (Nat → Int32) → (Nat → Int64) → Prop} (hw : w_X10_reduce p0_isOut p0_rows a1 a2 post) : Met l yX10_reduce wsX10_reduce ({ frames := 2, cells := 0, slots := 0, locals := 60 }) (va_Pc [.ref h_p0, .int a1, .int a2] (xPre (dC, dI) cI cJ cZ (wld_X10_reduce cI cJ cZ h_p0 ad_p0 p0_places p0_steps p0_pastFirst p0_past p0_goings p0_rowSize p0_ways p0_hasField p0_fieldSize p0_faultNow p0_hasTree p0_treeSize p0_weightCount p0_roundCount p0_setCount p0_isOut p0_rows) sz)) (q_X10_reduce dC dI cI cJ cZ h_p0 ad_p0 p0_places p0_steps p0_pastFirst p0_past p0_goings p0_rowSize p0_ways p0_hasField p0_fieldSize p0_faultNow p0_hasTree p0_treeSize p0_weightCount p0_roundCount p0_setCount p0_isOut p0_rows post (va_A (wld_X10_reduce cI cJ cZ h_p0 ad_p0 p0_places p0_steps p0_pastFirst p0_past p0_goings p0_rowSize p0_ways p0_hasField p0_fieldSize p0_faultNow p0_hasTree p0_treeSize p0_weightCount p0_roundCount p0_setCount p0_isOut p0_rows) sz)) 0 0 (va_A (wld_X10_reduce cI cJ cZ h_p0 ad_p0 p0_places p0_steps p0_pastFirst p0_past p0_goings p0_rowSize p0_ways p0_hasField p0_fieldSize p0_faultNow p0_hasTree p0_treeSize p0_weightCount p0_roundCount p0_setCount p0_isOut p0_rows) sz) := by
  refine x_met (cc := cX10_reduce) (maxL := 6) (ret := (some .boolean)) (own := RX10) (Qc := fun A => (q_X10_reduce dC dI cI cJ cZ h_p0 ad_p0 p0_places p0_steps p0_pastFirst p0_past p0_goings p0_rowSize p0_ways p0_hasField p0_fieldSize p0_faultNow p0_hasTree p0_treeSize p0_weightCount p0_roundCount p0_setCount p0_isOut p0_rows post A)) (by decide) rfl rfl (Nat.le_of_ble_eq_true rfl) ?_
  intro p e s m args below meth c A ls E0 hP hD hS hl
  obtain ⟨hx, hb, hr, hml, hown, hts, hlocks, hK, hA, n1, n2⟩ := id E0
  have iX10 : ∀ w ∈ u_ws RX10 TX10 50, w ∈ wsX10_reduce := fun w h => List.mem_cons_of_mem _ (List.mem_append_right _ h)
  have hS0 := hS
  have hl : lv_has ls 6 [(0, .ref h_p0), (1, .int a1), (2, .int a2)] := hl
  unfold w_X10_reduce at hw
  obtain ⟨H, hH⟩ : ∃ H, H = s.heap := ⟨_, rfl⟩
  have hS : va_S A s.heap H [] := by rw [hH]; exact hS
  have hP : va_P (dC, dI) vwCl (wld_X10_reduce cI cJ cZ h_p0 ad_p0 p0_places p0_steps p0_pastFirst p0_past p0_goings p0_rowSize p0_ways p0_hasField p0_fieldSize p0_faultNow p0_hasTree p0_treeSize p0_weightCount p0_roundCount p0_setCount p0_isOut p0_rows) H := by rw [hH]; exact hP
  suffices hG : W p l e ({ frames := 2, cells := 0, slots := 0, locals := 60 }) s m args below meth c H [] 0 0 (MQ below (q_X10_reduce dC dI cI cJ cZ h_p0 ad_p0 p0_places p0_steps p0_pastFirst p0_past p0_goings p0_rowSize p0_ways p0_hasField p0_fieldSize p0_faultNow p0_hasTree p0_treeSize p0_weightCount p0_roundCount p0_setCount p0_isOut p0_rows post A) args s 0 0 A) (F0 m 0 ls []) by rw [hH] at hG; exact hG
  clear hH
  refine lv_iconst (v := 0) hx hb dX10_reduce_0 (by decide) ?_
  refine lv_istore_n (lv' := [(3, .int (0 : Int32)), (0, .ref h_p0), (1, .int a1), (2, .int a2)]) hx hb dX10_reduce_1 rfl hl (by decide) rfl (fun ls hl => ?_)
  obtain ⟨n24, hw⟩ := hw
  refine c_X10_reduce_L2 (l := l) (z_p0_isOut := p0_isOut) (z_p0_rows := p0_rows) E0 ?_ n24 _ _ _ hw _ _ _ hP hD hS (lv_sub hl [1, 2, 3, 0] rfl)
  · intro v25 s26 s27 H locs ls hw hP hD hS hl
    have hP : va_P (dC, dI) vwCl (wld_X10_reduce cI cJ cZ h_p0 ad_p0 p0_places p0_steps p0_pastFirst p0_past p0_goings p0_rowSize p0_ways p0_hasField p0_fieldSize p0_faultNow p0_hasTree p0_treeSize p0_weightCount p0_roundCount p0_setCount s26 s27) H := hP
    have hD : va_D A (wld_X10_reduce cI cJ cZ h_p0 ad_p0 p0_places p0_steps p0_pastFirst p0_past p0_goings p0_rowSize p0_ways p0_hasField p0_fieldSize p0_faultNow p0_hasTree p0_treeSize p0_weightCount p0_roundCount p0_setCount s26 s27) := hD
    refine lv_iconst (v := 1) hx hb dX10_reduce_90 (by decide) ?_
    exact x_zret (w1 := fun (u : (Nat → Int32) × (Nat → Int64)) => (wld_X10_reduce cI cJ cZ h_p0 ad_p0 p0_places p0_steps p0_pastFirst p0_past p0_goings p0_rowSize p0_ways p0_hasField p0_fieldSize p0_faultNow p0_hasTree p0_treeSize p0_weightCount p0_roundCount p0_setCount (u.1) (u.2))) hx hb hr hlocks (by decide) (s26, s27) hw hP hD hS dX10_reduce_91
abbrev wld_X10_gather (cI cJ cZ : ClassId) (h_p0 : Nat) (h_p2 : Nat) (ad_p0 : Nat → Nat) (n_p2 : Nat) (p0_places : Int32) (p0_steps : Int32) (p0_pastFirst : Int32) (p0_past : Int32) (p0_goings : Int32) (p0_rowSize : Int32) (p0_ways : Int32) (p0_hasField : Int32) (p0_fieldSize : Int32) (p0_faultNow : Int32) (p0_hasTree : Int32) (p0_treeSize : Int32) (p0_weightCount : Int32) (p0_roundCount : Int32) (p0_setCount : Int32) (p0_isOut : Nat → Int32) (p0_rows : Nat → Int64) (p2 : Nat → Int32) : va_W := [(h_p0, .inr (10, [.int p0_places, .int p0_steps, .ref (ad_p0 2), .ref (ad_p0 3), .ref (ad_p0 4), .ref (ad_p0 5), .ref (ad_p0 6), .ref (ad_p0 7), .ref (ad_p0 8), .ref (ad_p0 9), .ref (ad_p0 10), .ref (ad_p0 11), .ref (ad_p0 12), .ref (ad_p0 13), .ref (ad_p0 14), .int p0_pastFirst, .int p0_past, .int p0_goings, .int p0_rowSize, .ref (ad_p0 19), .ref (ad_p0 20), .int p0_ways, .ref (ad_p0 22), .ref (ad_p0 23), .int p0_hasField, .int p0_fieldSize, .ref (ad_p0 26), .ref (ad_p0 27), .ref (ad_p0 28), .ref (ad_p0 29), .ref (ad_p0 30), .ref (ad_p0 31), .ref (ad_p0 32), .int p0_faultNow, .int p0_hasTree, .int p0_treeSize, .ref (ad_p0 36), .ref (ad_p0 37), .ref (ad_p0 38), .ref (ad_p0 39), .ref (ad_p0 40), .ref (ad_p0 41), .ref (ad_p0 42), .int p0_weightCount, .ref (ad_p0 44), .int p0_roundCount, .ref (ad_p0 46), .int p0_setCount, .ref (ad_p0 48), .ref (ad_p0 49)])), ((ad_p0 41), .inl (cZ, 16, .inl p0_isOut)), ((ad_p0 40), .inl (cJ, 512, .inr (.inl p0_rows))), (h_p2, .inl (cI, n_p2, .inl p2))]
abbrev q_X10_gather (dC : Nat → ClassId) (dI : Nat → Nat → Nat) (cI cJ cZ : ClassId) (h_p0 : Nat) (h_p2 : Nat) (ad_p0 : Nat → Nat) (n_p2 : Nat) (p0_places : Int32) (p0_steps : Int32) (p0_pastFirst : Int32) (p0_past : Int32) (p0_goings : Int32) (p0_rowSize : Int32) (p0_ways : Int32) (p0_hasField : Int32) (p0_fieldSize : Int32) (p0_faultNow : Int32) (p0_hasTree : Int32) (p0_treeSize : Int32) (p0_weightCount : Int32) (p0_roundCount : Int32) (p0_setCount : Int32) (p0_isOut : Nat → Int32) (p0_rows : Nat → Int64) (p2 : Nat → Int32) (post : Int32 → (Nat → Int32) → Prop) (A : Nat → Prop) : Array Value → State → Outcome → State → Prop := va_Qi (fun r (u : (Nat → Int32)) => post r u) (fun (u : (Nat → Int32)) t => xPost (dC, dI) A (wld_X10_gather cI cJ cZ h_p0 h_p2 ad_p0 n_p2 p0_places p0_steps p0_pastFirst p0_past p0_goings p0_rowSize p0_ways p0_hasField p0_fieldSize p0_faultNow p0_hasTree p0_treeSize p0_weightCount p0_roundCount p0_setCount p0_isOut p0_rows u) t) A
def w_X10_gather_L27b (n_p2 : Nat) (v1 : Int32) (v3 : Int32) (v4 : Int32) (p0_isOut : Nat → Int32) (p0_rows : Nat → Int64) (post : Int32 → (Nat → Int32) → Prop) (K : (Int32) → (Int32) → (Nat → Int32) → Prop) (rec : (Int32) → (Int32) → (Nat → Int32) → Prop) (v5 : Int32) (v6 : Int32) (p2 : Nat → Int32) : Prop :=
    ((16 : Int32) ≤ v6 →
      K v5 v6 p2) ∧
    (¬ (16 : Int32) ≤ v6 →
      vp_in ((((32 : Int32) * v4) + (16 : Int32)) + v6) 512 ∧
      ∀ x8 : Int64, x8 = (p0_rows ((((32 : Int32) * v4) + (16 : Int32)) + v6).toNatClampNeg) →
      (¬ v5 = 0 →
        (0 ≤ v5 →
          vp_in (((16 : Int32) * v3) + v6) n_p2 ∧
          ∀ x13 : Int32, x13 = v6 + (1 : Int32) →
          rec v5 x13 (upd p2 (((16 : Int32) * v3) + v6).toNatClampNeg x8.toInt32)) ∧
        (¬ 0 ≤ v5 →
          vp_in (((16 : Int32) * v3) + v6) n_p2 ∧
          ∀ x14 : Int32, x14 = v6 + (1 : Int32) →
          rec v5 x14 (upd p2 (((16 : Int32) * v3) + v6).toNatClampNeg (-x8).toInt32))) ∧
      (v5 = 0 →
        ((lg_cmp x8 (0 : Int64)) = 0 →
          (0 ≤ v5 →
            vp_in (((16 : Int32) * v3) + v6) n_p2 ∧
            ∀ x19 : Int32, x19 = v6 + (1 : Int32) →
            rec v5 x19 (upd p2 (((16 : Int32) * v3) + v6).toNatClampNeg x8.toInt32)) ∧
          (¬ 0 ≤ v5 →
            vp_in (((16 : Int32) * v3) + v6) n_p2 ∧
            ∀ x20 : Int32, x20 = v6 + (1 : Int32) →
            rec v5 x20 (upd p2 (((16 : Int32) * v3) + v6).toNatClampNeg (-x8).toInt32))) ∧
        (¬ (lg_cmp x8 (0 : Int64)) = 0 →
          (0 ≤ (lg_cmp x8 (0 : Int64)) →
            (0 ≤ (1 : Int32) →
              vp_in (((16 : Int32) * v3) + v6) n_p2 ∧
              ∀ x25 : Int32, x25 = v6 + (1 : Int32) →
              rec (1 : Int32) x25 (upd p2 (((16 : Int32) * v3) + v6).toNatClampNeg x8.toInt32)) ∧
            (¬ 0 ≤ (1 : Int32) →
              vp_in (((16 : Int32) * v3) + v6) n_p2 ∧
              ∀ x26 : Int32, x26 = v6 + (1 : Int32) →
              rec (1 : Int32) x26 (upd p2 (((16 : Int32) * v3) + v6).toNatClampNeg (-x8).toInt32))) ∧
          (¬ 0 ≤ (lg_cmp x8 (0 : Int64)) →
            (0 ≤ (-1 : Int32) →
              vp_in (((16 : Int32) * v3) + v6) n_p2 ∧
              ∀ x29 : Int32, x29 = v6 + (1 : Int32) →
              rec (-1 : Int32) x29 (upd p2 (((16 : Int32) * v3) + v6).toNatClampNeg x8.toInt32)) ∧
            (¬ 0 ≤ (-1 : Int32) →
              vp_in (((16 : Int32) * v3) + v6) n_p2 ∧
              ∀ x30 : Int32, x30 = v6 + (1 : Int32) →
              rec (-1 : Int32) x30 (upd p2 (((16 : Int32) * v3) + v6).toNatClampNeg (-x8).toInt32))))))
def w_X10_gather_L27 (n_p2 : Nat) (v1 : Int32) (v3 : Int32) (v4 : Int32) (p0_isOut : Nat → Int32) (p0_rows : Nat → Int64) (post : Int32 → (Nat → Int32) → Prop) (K : (Int32) → (Int32) → (Nat → Int32) → Prop) : Nat → (Int32) → (Int32) → (Nat → Int32) → Prop
  | 0, _, _, _ => False
  | n + 1, v5, v6, p2 => w_X10_gather_L27b n_p2 v1 v3 v4 p0_isOut p0_rows post K (w_X10_gather_L27 n_p2 v1 v3 v4 p0_isOut p0_rows post K n) v5 v6 p2
def w_X10_gather_L5b (n_p2 : Nat) (v1 : Int32) (p0_isOut : Nat → Int32) (p0_rows : Nat → Int64) (post : Int32 → (Nat → Int32) → Prop) (K : (Int32) → (Int32) → (Nat → Int32) → Prop) (rec : (Int32) → (Int32) → (Nat → Int32) → Prop) (v3 : Int32) (v4 : Int32) (p2 : Nat → Int32) : Prop :=
    (v1 ≤ v4 →
      K v3 v4 p2) ∧
    (¬ v1 ≤ v4 →
      vp_in v4 16 ∧
      (¬ (p0_isOut v4.toNatClampNeg) = 0 →
        ∀ x5 : Int32, x5 = v4 + (1 : Int32) →
        rec v3 x5 p2) ∧
      ((p0_isOut v4.toNatClampNeg) = 0 →
        ∃ n : Nat, w_X10_gather_L27 n_p2 v1 v3 v4 p0_isOut p0_rows post (fun v32 v33 s34 =>
            ∀ x35 : Int32, x35 = v3 + (1 : Int32) →
            ∀ x36 : Int32, x36 = v4 + (1 : Int32) →
            rec x35 x36 s34) n (0 : Int32) (0 : Int32) p2))
def w_X10_gather_L5 (n_p2 : Nat) (v1 : Int32) (p0_isOut : Nat → Int32) (p0_rows : Nat → Int64) (post : Int32 → (Nat → Int32) → Prop) (K : (Int32) → (Int32) → (Nat → Int32) → Prop) : Nat → (Int32) → (Int32) → (Nat → Int32) → Prop
  | 0, _, _, _ => False
  | n + 1, v3, v4, p2 => w_X10_gather_L5b n_p2 v1 p0_isOut p0_rows post K (w_X10_gather_L5 n_p2 v1 p0_isOut p0_rows post K n) v3 v4 p2
def w_X10_gather (n_p2 : Nat) (p0_isOut : Nat → Int32) (p0_rows : Nat → Int64) (p2 : Nat → Int32) (a1 : Int32) (post : Int32 → (Nat → Int32) → Prop) : Prop :=
  ∃ n : Nat, w_X10_gather_L5 n_p2 a1 p0_isOut p0_rows post (fun v38 v39 s40 =>
      (post v38 s40)) n (0 : Int32) (0 : Int32) p2
set_option maxHeartbeats 4000000 in
set_option maxRecDepth 100000 in
theorem c_X10_gather_L27 {p : Program} {l : Launch} {e : Env} {s : State} {m : MethodId} {args : Array Value} {below : List Frame} {meth : Method} {c : Code} {dC : Nat → ClassId} {dI : Nat → Nat → Nat} {A : Nat → Prop} {cI cJ cZ : ClassId} {h_p0 : Nat} {h_p2 : Nat} {ad_p0 : Nat → Nat} {n_p2 : Nat} {p0_places : Int32} {p0_steps : Int32} {p0_pastFirst : Int32} {p0_past : Int32} {p0_goings : Int32} {p0_rowSize : Int32} {p0_ways : Int32} {p0_hasField : Int32} {p0_fieldSize : Int32} {p0_faultNow : Int32} {p0_hasTree : Int32} {p0_treeSize : Int32} {p0_weightCount : Int32} {p0_roundCount : Int32} {p0_setCount : Int32} {p0_isOut : Nat → Int32} {p0_rows : Nat → Int64} {v1 : Int32} {v3 : Int32} {v4 : Int32} {z_p2 : Nat → Int32} {post : Int32 → (Nat → Int32) → Prop} {K : (Int32) → (Int32) → (Nat → Int32) → Prop} (E0 : xEnv p s m args meth c cX10_gather (some .int) 9 RX10 wsX10_gather (dC, dI) cI cJ cZ A) (hk : ∀ (v5 : Int32) (v6 : Int32) (p2 : Nat → Int32) (H : Heap) (locs : List Loc) (ls : Array Slot), K v5 v6 p2 → va_P (dC, dI) vwCl (wld_X10_gather cI cJ cZ h_p0 h_p2 ad_p0 n_p2 p0_places p0_steps p0_pastFirst p0_past p0_goings p0_rowSize p0_ways p0_hasField p0_fieldSize p0_faultNow p0_hasTree p0_treeSize p0_weightCount p0_roundCount p0_setCount p0_isOut p0_rows p2) H → va_D A (wld_X10_gather cI cJ cZ h_p0 h_p2 ad_p0 n_p2 p0_places p0_steps p0_pastFirst p0_past p0_goings p0_rowSize p0_ways p0_hasField p0_fieldSize p0_faultNow p0_hasTree p0_treeSize p0_weightCount p0_roundCount p0_setCount p0_isOut p0_rows p2) → va_S A s.heap H locs → lv_has ls 9 [(0, .ref h_p0), (1, .int v1), (2, .ref h_p2), (3, .int v3), (4, .int v4)] → W p l e ({ frames := 0, cells := 0, slots := 0, locals := 0 }) s m args below meth c H locs 0 0 (MQ below (q_X10_gather dC dI cI cJ cZ h_p0 h_p2 ad_p0 n_p2 p0_places p0_steps p0_pastFirst p0_past p0_goings p0_rowSize p0_ways p0_hasField p0_fieldSize p0_faultNow p0_hasTree p0_treeSize p0_weightCount p0_roundCount p0_setCount p0_isOut p0_rows z_p2 post A) args s 0 0 A) (F0 m 112 ls [])) : ∀ (n : Nat) (v5 : Int32) (v6 : Int32) (p2 : Nat → Int32), w_X10_gather_L27 n_p2 v1 v3 v4 p0_isOut p0_rows post K n v5 v6 p2 → ∀ (H : Heap) (locs : List Loc) (ls : Array Slot), va_P (dC, dI) vwCl (wld_X10_gather cI cJ cZ h_p0 h_p2 ad_p0 n_p2 p0_places p0_steps p0_pastFirst p0_past p0_goings p0_rowSize p0_ways p0_hasField p0_fieldSize p0_faultNow p0_hasTree p0_treeSize p0_weightCount p0_roundCount p0_setCount p0_isOut p0_rows p2) H → va_D A (wld_X10_gather cI cJ cZ h_p0 h_p2 ad_p0 n_p2 p0_places p0_steps p0_pastFirst p0_past p0_goings p0_rowSize p0_ways p0_hasField p0_fieldSize p0_faultNow p0_hasTree p0_treeSize p0_weightCount p0_roundCount p0_setCount p0_isOut p0_rows p2) → va_S A s.heap H locs → lv_has ls 9 [(0, .ref h_p0), (1, .int v1), (2, .ref h_p2), (3, .int v3), (4, .int v4), (5, .int v5), (6, .int v6)] → W p l e ({ frames := 0, cells := 0, slots := 0, locals := 0 }) s m args below meth c H locs 0 0 (MQ below (q_X10_gather dC dI cI cJ cZ h_p0 h_p2 ad_p0 n_p2 p0_places p0_steps p0_pastFirst p0_past p0_goings p0_rowSize p0_ways p0_hasField p0_fieldSize p0_faultNow p0_hasTree p0_treeSize p0_weightCount p0_roundCount p0_setCount p0_isOut p0_rows z_p2 post A) args s 0 0 A) (F0 m 27 ls []) := by
  obtain ⟨hx, hb, hr, hml, hown, hts, hlocks, hK, hA, n1, n2⟩ := id E0
  have iX10 : ∀ w ∈ u_ws RX10 TX10 50, w ∈ wsX10_gather := fun w h => List.mem_cons_of_mem _ (List.mem_append_right _ h)
  intro n
  induction n with
  | zero => intro v5 v6 p2 hw; exact hw.elim
  | succ n ih =>
    intro v5 v6 p2 hw H locs ls hP hD hS hl
    have hw : w_X10_gather_L27b n_p2 v1 v3 v4 p0_isOut p0_rows post K (w_X10_gather_L27 n_p2 v1 v3 v4 p0_isOut p0_rows post K n) v5 v6 p2 := hw
    unfold w_X10_gather_L27b at hw
    refine lv_iload hx hb dX10_gather_27 (lv_at hl 6 rfl) ?_
    refine lv_bipush (v := 16) hx hb dX10_gather_29 (by decide) ?_
    refine lv_icmp_ge (tgt := 112) hx hb dX10_gather_31 (by decide) (fun c6 => ?_) (fun c7 => ?_)
    · have hw := hw.1 c6
      exact hk _ _ _ _ _ _ hw hP hD hS (lv_sub hl [0, 1, 2, 3, 4] rfl)
    · have hw := hw.2 c7
      refine lv_aload_n hx hb dX10_gather_34 rfl (lv_at hl 0 rfl) ?_
      refine va_get (D := (dC, dI)) (ci := 10) (v := .ref (ad_p0 40)) (C := RX10) (T := TX10) (N := 50) hx hb hts iX10 hown hK hP 0 rfl rfl 40 (by decide) (hts (.fieldLink RX10 102 "NetHouseModel" "rows" "[J") (by decide +kernel)) (fun _ h9 => h9) rfl dX10_gather_35 ?_
      refine lv_bipush (v := 32) hx hb dX10_gather_38 (by decide) ?_
      refine lv_iload hx hb dX10_gather_40 (lv_at hl 4 rfl) ?_
      refine lv_imul hx hb dX10_gather_42 ?_
      refine lv_bipush (v := 16) hx hb dX10_gather_43 (by decide) ?_
      refine lv_iadd hx hb dX10_gather_45 ?_
      refine lv_iload hx hb dX10_gather_46 (lv_at hl 6 rfl) ?_
      refine lv_iadd hx hb dX10_gather_48 ?_
      refine va_lald hx hb hK hP 2 1 rfl rfl hw.1 dX10_gather_49 ?_
      have hw := hw.2
      refine lv_topl (fun x8 ex8 => ?_)
      have hw := hw x8 ex8
      refine lv_lstore (lv' := [(7, .long x8), (0, .ref h_p0), (1, .int v1), (2, .ref h_p2), (3, .int v3), (4, .int v4), (5, .int v5), (6, .int v6)]) hx hb dX10_gather_50 hl (by decide) rfl (fun ls hl => ?_)
      refine lv_iload hx hb dX10_gather_52 (lv_at hl 6 rfl) ?_
      refine lv_if_ne (tgt := 79) hx hb dX10_gather_54 (by decide) (fun c9 => ?_) (fun c10 => ?_)
      · have hw := hw.1 c9
        refine lv_iload hx hb dX10_gather_79 (lv_at hl 6 rfl) ?_
        refine lv_istore (lv' := [(5, .int v5), (7, .long x8), (0, .ref h_p0), (1, .int v1), (2, .ref h_p2), (3, .int v3), (4, .int v4), (6, .int v6)]) hx hb dX10_gather_81 hl (by decide) rfl (fun ls hl => ?_)
        refine lv_aload_n hx hb dX10_gather_83 rfl (lv_at hl 4 rfl) ?_
        refine lv_bipush (v := 16) hx hb dX10_gather_84 (by decide) ?_
        refine lv_iload_n hx hb dX10_gather_86 rfl (lv_at hl 5 rfl) ?_
        refine lv_imul hx hb dX10_gather_87 ?_
        refine lv_iload hx hb dX10_gather_88 (lv_at hl 7 rfl) ?_
        refine lv_iadd hx hb dX10_gather_90 ?_
        refine lv_iload hx hb dX10_gather_91 (lv_at hl 0 rfl) ?_
        refine lv_if_ge (tgt := 102) hx hb dX10_gather_93 (by decide) (fun c11 => ?_) (fun c12 => ?_)
        · have hw := hw.1 c11
          refine lv_lload hx hb dX10_gather_102 (lv_at hl 1 rfl) ?_
          refine lv_l2i hx hb dX10_gather_104 rfl ?_
          refine va_iast hx hb hK hP hD hS 3 0 rfl rfl hw.1 dX10_gather_105 (fun H locs hP hD hS => ?_)
          have hw := hw.2
          have hP : va_P (dC, dI) vwCl (wld_X10_gather cI cJ cZ h_p0 h_p2 ad_p0 n_p2 p0_places p0_steps p0_pastFirst p0_past p0_goings p0_rowSize p0_ways p0_hasField p0_fieldSize p0_faultNow p0_hasTree p0_treeSize p0_weightCount p0_roundCount p0_setCount p0_isOut p0_rows (upd p2 (((16 : Int32) * v3) + v6).toNatClampNeg x8.toInt32)) H := hP
          have hD : va_D A (wld_X10_gather cI cJ cZ h_p0 h_p2 ad_p0 n_p2 p0_places p0_steps p0_pastFirst p0_past p0_goings p0_rowSize p0_ways p0_hasField p0_fieldSize p0_faultNow p0_hasTree p0_treeSize p0_weightCount p0_roundCount p0_setCount p0_isOut p0_rows (upd p2 (((16 : Int32) * v3) + v6).toNatClampNeg x8.toInt32)) := hD
          obtain ⟨x13, ex13⟩ : ∃ y : Int32, y = v6 + (1 : Int32) := ⟨_, rfl⟩
          have hw := hw x13 ex13
          refine lv_iinc (v := x13) (lv' := [(6, .int x13), (5, .int v5), (7, .long x8), (0, .ref h_p0), (1, .int v1), (2, .ref h_p2), (3, .int v3), (4, .int v4)]) hx hb dX10_gather_106 hl (k := 7) rfl (by rw [ex13]; rfl) (by decide) rfl (fun ls hl => ?_)
          refine lv_goto (tgt := 27) hx hb dX10_gather_109 (by decide) ?_
          exact ih _ _ _ hw _ _ _ hP hD hS (lv_sub hl [3, 4, 5, 6, 7, 1, 0] rfl)
        · have hw := hw.2 c12
          refine lv_lload hx hb dX10_gather_96 (lv_at hl 1 rfl) ?_
          refine lv_lneg hx hb dX10_gather_98 ?_
          refine lv_goto (tgt := 104) hx hb dX10_gather_99 (by decide) ?_
          refine lv_l2i hx hb dX10_gather_104 rfl ?_
          refine va_iast hx hb hK hP hD hS 3 0 rfl rfl hw.1 dX10_gather_105 (fun H locs hP hD hS => ?_)
          have hw := hw.2
          have hP : va_P (dC, dI) vwCl (wld_X10_gather cI cJ cZ h_p0 h_p2 ad_p0 n_p2 p0_places p0_steps p0_pastFirst p0_past p0_goings p0_rowSize p0_ways p0_hasField p0_fieldSize p0_faultNow p0_hasTree p0_treeSize p0_weightCount p0_roundCount p0_setCount p0_isOut p0_rows (upd p2 (((16 : Int32) * v3) + v6).toNatClampNeg (-x8).toInt32)) H := hP
          have hD : va_D A (wld_X10_gather cI cJ cZ h_p0 h_p2 ad_p0 n_p2 p0_places p0_steps p0_pastFirst p0_past p0_goings p0_rowSize p0_ways p0_hasField p0_fieldSize p0_faultNow p0_hasTree p0_treeSize p0_weightCount p0_roundCount p0_setCount p0_isOut p0_rows (upd p2 (((16 : Int32) * v3) + v6).toNatClampNeg (-x8).toInt32)) := hD
          obtain ⟨x14, ex14⟩ : ∃ y : Int32, y = v6 + (1 : Int32) := ⟨_, rfl⟩
          have hw := hw x14 ex14
          refine lv_iinc (v := x14) (lv' := [(6, .int x14), (5, .int v5), (7, .long x8), (0, .ref h_p0), (1, .int v1), (2, .ref h_p2), (3, .int v3), (4, .int v4)]) hx hb dX10_gather_106 hl (k := 7) rfl (by rw [ex14]; rfl) (by decide) rfl (fun ls hl => ?_)
          refine lv_goto (tgt := 27) hx hb dX10_gather_109 (by decide) ?_
          exact ih _ _ _ hw _ _ _ hP hD hS (lv_sub hl [3, 4, 5, 6, 7, 1, 0] rfl)
      · have hw := hw.2 c10
        refine lv_lload hx hb dX10_gather_57 (lv_at hl 0 rfl) ?_
        refine lv_lconst (v := 0) hx hb dX10_gather_59 (by decide) ?_
        refine W.lcmp hx hb dX10_gather_60 ?_
        refine lv_if_eq (tgt := 79) hx hb dX10_gather_61 (by decide) (fun c15 => ?_) (fun c16 => ?_)
        · have hw := hw.1 c15
          refine lv_iload hx hb dX10_gather_79 (lv_at hl 6 rfl) ?_
          refine lv_istore (lv' := [(5, .int v5), (7, .long x8), (0, .ref h_p0), (1, .int v1), (2, .ref h_p2), (3, .int v3), (4, .int v4), (6, .int v6)]) hx hb dX10_gather_81 hl (by decide) rfl (fun ls hl => ?_)
          refine lv_aload_n hx hb dX10_gather_83 rfl (lv_at hl 4 rfl) ?_
          refine lv_bipush (v := 16) hx hb dX10_gather_84 (by decide) ?_
          refine lv_iload_n hx hb dX10_gather_86 rfl (lv_at hl 5 rfl) ?_
          refine lv_imul hx hb dX10_gather_87 ?_
          refine lv_iload hx hb dX10_gather_88 (lv_at hl 7 rfl) ?_
          refine lv_iadd hx hb dX10_gather_90 ?_
          refine lv_iload hx hb dX10_gather_91 (lv_at hl 0 rfl) ?_
          refine lv_if_ge (tgt := 102) hx hb dX10_gather_93 (by decide) (fun c17 => ?_) (fun c18 => ?_)
          · have hw := hw.1 c17
            refine lv_lload hx hb dX10_gather_102 (lv_at hl 1 rfl) ?_
            refine lv_l2i hx hb dX10_gather_104 rfl ?_
            refine va_iast hx hb hK hP hD hS 3 0 rfl rfl hw.1 dX10_gather_105 (fun H locs hP hD hS => ?_)
            have hw := hw.2
            have hP : va_P (dC, dI) vwCl (wld_X10_gather cI cJ cZ h_p0 h_p2 ad_p0 n_p2 p0_places p0_steps p0_pastFirst p0_past p0_goings p0_rowSize p0_ways p0_hasField p0_fieldSize p0_faultNow p0_hasTree p0_treeSize p0_weightCount p0_roundCount p0_setCount p0_isOut p0_rows (upd p2 (((16 : Int32) * v3) + v6).toNatClampNeg x8.toInt32)) H := hP
            have hD : va_D A (wld_X10_gather cI cJ cZ h_p0 h_p2 ad_p0 n_p2 p0_places p0_steps p0_pastFirst p0_past p0_goings p0_rowSize p0_ways p0_hasField p0_fieldSize p0_faultNow p0_hasTree p0_treeSize p0_weightCount p0_roundCount p0_setCount p0_isOut p0_rows (upd p2 (((16 : Int32) * v3) + v6).toNatClampNeg x8.toInt32)) := hD
            obtain ⟨x19, ex19⟩ : ∃ y : Int32, y = v6 + (1 : Int32) := ⟨_, rfl⟩
            have hw := hw x19 ex19
            refine lv_iinc (v := x19) (lv' := [(6, .int x19), (5, .int v5), (7, .long x8), (0, .ref h_p0), (1, .int v1), (2, .ref h_p2), (3, .int v3), (4, .int v4)]) hx hb dX10_gather_106 hl (k := 7) rfl (by rw [ex19]; rfl) (by decide) rfl (fun ls hl => ?_)
            refine lv_goto (tgt := 27) hx hb dX10_gather_109 (by decide) ?_
            exact ih _ _ _ hw _ _ _ hP hD hS (lv_sub hl [3, 4, 5, 6, 7, 1, 0] rfl)
          · have hw := hw.2 c18
            refine lv_lload hx hb dX10_gather_96 (lv_at hl 1 rfl) ?_
            refine lv_lneg hx hb dX10_gather_98 ?_
            refine lv_goto (tgt := 104) hx hb dX10_gather_99 (by decide) ?_
            refine lv_l2i hx hb dX10_gather_104 rfl ?_
            refine va_iast hx hb hK hP hD hS 3 0 rfl rfl hw.1 dX10_gather_105 (fun H locs hP hD hS => ?_)
            have hw := hw.2
            have hP : va_P (dC, dI) vwCl (wld_X10_gather cI cJ cZ h_p0 h_p2 ad_p0 n_p2 p0_places p0_steps p0_pastFirst p0_past p0_goings p0_rowSize p0_ways p0_hasField p0_fieldSize p0_faultNow p0_hasTree p0_treeSize p0_weightCount p0_roundCount p0_setCount p0_isOut p0_rows (upd p2 (((16 : Int32) * v3) + v6).toNatClampNeg (-x8).toInt32)) H := hP
            have hD : va_D A (wld_X10_gather cI cJ cZ h_p0 h_p2 ad_p0 n_p2 p0_places p0_steps p0_pastFirst p0_past p0_goings p0_rowSize p0_ways p0_hasField p0_fieldSize p0_faultNow p0_hasTree p0_treeSize p0_weightCount p0_roundCount p0_setCount p0_isOut p0_rows (upd p2 (((16 : Int32) * v3) + v6).toNatClampNeg (-x8).toInt32)) := hD
            obtain ⟨x20, ex20⟩ : ∃ y : Int32, y = v6 + (1 : Int32) := ⟨_, rfl⟩
            have hw := hw x20 ex20
            refine lv_iinc (v := x20) (lv' := [(6, .int x20), (5, .int v5), (7, .long x8), (0, .ref h_p0), (1, .int v1), (2, .ref h_p2), (3, .int v3), (4, .int v4)]) hx hb dX10_gather_106 hl (k := 7) rfl (by rw [ex20]; rfl) (by decide) rfl (fun ls hl => ?_)
            refine lv_goto (tgt := 27) hx hb dX10_gather_109 (by decide) ?_
            exact ih _ _ _ hw _ _ _ hP hD hS (lv_sub hl [3, 4, 5, 6, 7, 1, 0] rfl)
        · have hw := hw.2 c16
          refine lv_lload hx hb dX10_gather_64 (lv_at hl 0 rfl) ?_
          refine lv_lconst (v := 0) hx hb dX10_gather_66 (by decide) ?_
          refine W.lcmp hx hb dX10_gather_67 ?_
          refine lv_if_ge (tgt := 75) hx hb dX10_gather_68 (by decide) (fun c21 => ?_) (fun c22 => ?_)
          · have hw := hw.1 c21
            refine lv_iconst (v := 1) hx hb dX10_gather_75 (by decide) ?_
            refine lv_goto (tgt := 81) hx hb dX10_gather_76 (by decide) ?_
            refine lv_istore (lv' := [(5, .int (1 : Int32)), (7, .long x8), (0, .ref h_p0), (1, .int v1), (2, .ref h_p2), (3, .int v3), (4, .int v4), (6, .int v6)]) hx hb dX10_gather_81 hl (by decide) rfl (fun ls hl => ?_)
            refine lv_aload_n hx hb dX10_gather_83 rfl (lv_at hl 4 rfl) ?_
            refine lv_bipush (v := 16) hx hb dX10_gather_84 (by decide) ?_
            refine lv_iload_n hx hb dX10_gather_86 rfl (lv_at hl 5 rfl) ?_
            refine lv_imul hx hb dX10_gather_87 ?_
            refine lv_iload hx hb dX10_gather_88 (lv_at hl 7 rfl) ?_
            refine lv_iadd hx hb dX10_gather_90 ?_
            refine lv_iload hx hb dX10_gather_91 (lv_at hl 0 rfl) ?_
            refine lv_if_ge (tgt := 102) hx hb dX10_gather_93 (by decide) (fun c23 => ?_) (fun c24 => ?_)
            · have hw := hw.1 c23
              refine lv_lload hx hb dX10_gather_102 (lv_at hl 1 rfl) ?_
              refine lv_l2i hx hb dX10_gather_104 rfl ?_
              refine va_iast hx hb hK hP hD hS 3 0 rfl rfl hw.1 dX10_gather_105 (fun H locs hP hD hS => ?_)
              have hw := hw.2
              have hP : va_P (dC, dI) vwCl (wld_X10_gather cI cJ cZ h_p0 h_p2 ad_p0 n_p2 p0_places p0_steps p0_pastFirst p0_past p0_goings p0_rowSize p0_ways p0_hasField p0_fieldSize p0_faultNow p0_hasTree p0_treeSize p0_weightCount p0_roundCount p0_setCount p0_isOut p0_rows (upd p2 (((16 : Int32) * v3) + v6).toNatClampNeg x8.toInt32)) H := hP
              have hD : va_D A (wld_X10_gather cI cJ cZ h_p0 h_p2 ad_p0 n_p2 p0_places p0_steps p0_pastFirst p0_past p0_goings p0_rowSize p0_ways p0_hasField p0_fieldSize p0_faultNow p0_hasTree p0_treeSize p0_weightCount p0_roundCount p0_setCount p0_isOut p0_rows (upd p2 (((16 : Int32) * v3) + v6).toNatClampNeg x8.toInt32)) := hD
              obtain ⟨x25, ex25⟩ : ∃ y : Int32, y = v6 + (1 : Int32) := ⟨_, rfl⟩
              have hw := hw x25 ex25
              refine lv_iinc (v := x25) (lv' := [(6, .int x25), (5, .int (1 : Int32)), (7, .long x8), (0, .ref h_p0), (1, .int v1), (2, .ref h_p2), (3, .int v3), (4, .int v4)]) hx hb dX10_gather_106 hl (k := 7) rfl (by rw [ex25]; rfl) (by decide) rfl (fun ls hl => ?_)
              refine lv_goto (tgt := 27) hx hb dX10_gather_109 (by decide) ?_
              exact ih _ _ _ hw _ _ _ hP hD hS (lv_sub hl [3, 4, 5, 6, 7, 1, 0] rfl)
            · have hw := hw.2 c24
              refine lv_lload hx hb dX10_gather_96 (lv_at hl 1 rfl) ?_
              refine lv_lneg hx hb dX10_gather_98 ?_
              refine lv_goto (tgt := 104) hx hb dX10_gather_99 (by decide) ?_
              refine lv_l2i hx hb dX10_gather_104 rfl ?_
              refine va_iast hx hb hK hP hD hS 3 0 rfl rfl hw.1 dX10_gather_105 (fun H locs hP hD hS => ?_)
              have hw := hw.2
              have hP : va_P (dC, dI) vwCl (wld_X10_gather cI cJ cZ h_p0 h_p2 ad_p0 n_p2 p0_places p0_steps p0_pastFirst p0_past p0_goings p0_rowSize p0_ways p0_hasField p0_fieldSize p0_faultNow p0_hasTree p0_treeSize p0_weightCount p0_roundCount p0_setCount p0_isOut p0_rows (upd p2 (((16 : Int32) * v3) + v6).toNatClampNeg (-x8).toInt32)) H := hP
              have hD : va_D A (wld_X10_gather cI cJ cZ h_p0 h_p2 ad_p0 n_p2 p0_places p0_steps p0_pastFirst p0_past p0_goings p0_rowSize p0_ways p0_hasField p0_fieldSize p0_faultNow p0_hasTree p0_treeSize p0_weightCount p0_roundCount p0_setCount p0_isOut p0_rows (upd p2 (((16 : Int32) * v3) + v6).toNatClampNeg (-x8).toInt32)) := hD
              obtain ⟨x26, ex26⟩ : ∃ y : Int32, y = v6 + (1 : Int32) := ⟨_, rfl⟩
              have hw := hw x26 ex26
              refine lv_iinc (v := x26) (lv' := [(6, .int x26), (5, .int (1 : Int32)), (7, .long x8), (0, .ref h_p0), (1, .int v1), (2, .ref h_p2), (3, .int v3), (4, .int v4)]) hx hb dX10_gather_106 hl (k := 7) rfl (by rw [ex26]; rfl) (by decide) rfl (fun ls hl => ?_)
              refine lv_goto (tgt := 27) hx hb dX10_gather_109 (by decide) ?_
              exact ih _ _ _ hw _ _ _ hP hD hS (lv_sub hl [3, 4, 5, 6, 7, 1, 0] rfl)
          · have hw := hw.2 c22
            refine lv_iconst (v := -1) hx hb dX10_gather_71 (by decide) ?_
            refine lv_goto (tgt := 81) hx hb dX10_gather_72 (by decide) ?_
            refine lv_istore (lv' := [(5, .int (-1 : Int32)), (7, .long x8), (0, .ref h_p0), (1, .int v1), (2, .ref h_p2), (3, .int v3), (4, .int v4), (6, .int v6)]) hx hb dX10_gather_81 hl (by decide) rfl (fun ls hl => ?_)
            refine lv_aload_n hx hb dX10_gather_83 rfl (lv_at hl 4 rfl) ?_
            refine lv_bipush (v := 16) hx hb dX10_gather_84 (by decide) ?_
            refine lv_iload_n hx hb dX10_gather_86 rfl (lv_at hl 5 rfl) ?_
            refine lv_imul hx hb dX10_gather_87 ?_
            refine lv_iload hx hb dX10_gather_88 (lv_at hl 7 rfl) ?_
            refine lv_iadd hx hb dX10_gather_90 ?_
            refine lv_iload hx hb dX10_gather_91 (lv_at hl 0 rfl) ?_
            refine lv_if_ge (tgt := 102) hx hb dX10_gather_93 (by decide) (fun c27 => ?_) (fun c28 => ?_)
            · have hw := hw.1 c27
              refine lv_lload hx hb dX10_gather_102 (lv_at hl 1 rfl) ?_
              refine lv_l2i hx hb dX10_gather_104 rfl ?_
              refine va_iast hx hb hK hP hD hS 3 0 rfl rfl hw.1 dX10_gather_105 (fun H locs hP hD hS => ?_)
              have hw := hw.2
              have hP : va_P (dC, dI) vwCl (wld_X10_gather cI cJ cZ h_p0 h_p2 ad_p0 n_p2 p0_places p0_steps p0_pastFirst p0_past p0_goings p0_rowSize p0_ways p0_hasField p0_fieldSize p0_faultNow p0_hasTree p0_treeSize p0_weightCount p0_roundCount p0_setCount p0_isOut p0_rows (upd p2 (((16 : Int32) * v3) + v6).toNatClampNeg x8.toInt32)) H := hP
              have hD : va_D A (wld_X10_gather cI cJ cZ h_p0 h_p2 ad_p0 n_p2 p0_places p0_steps p0_pastFirst p0_past p0_goings p0_rowSize p0_ways p0_hasField p0_fieldSize p0_faultNow p0_hasTree p0_treeSize p0_weightCount p0_roundCount p0_setCount p0_isOut p0_rows (upd p2 (((16 : Int32) * v3) + v6).toNatClampNeg x8.toInt32)) := hD
              obtain ⟨x29, ex29⟩ : ∃ y : Int32, y = v6 + (1 : Int32) := ⟨_, rfl⟩
              have hw := hw x29 ex29
              refine lv_iinc (v := x29) (lv' := [(6, .int x29), (5, .int (-1 : Int32)), (7, .long x8), (0, .ref h_p0), (1, .int v1), (2, .ref h_p2), (3, .int v3), (4, .int v4)]) hx hb dX10_gather_106 hl (k := 7) rfl (by rw [ex29]; rfl) (by decide) rfl (fun ls hl => ?_)
              refine lv_goto (tgt := 27) hx hb dX10_gather_109 (by decide) ?_
              exact ih _ _ _ hw _ _ _ hP hD hS (lv_sub hl [3, 4, 5, 6, 7, 1, 0] rfl)
            · have hw := hw.2 c28
              refine lv_lload hx hb dX10_gather_96 (lv_at hl 1 rfl) ?_
              refine lv_lneg hx hb dX10_gather_98 ?_
              refine lv_goto (tgt := 104) hx hb dX10_gather_99 (by decide) ?_
              refine lv_l2i hx hb dX10_gather_104 rfl ?_
              refine va_iast hx hb hK hP hD hS 3 0 rfl rfl hw.1 dX10_gather_105 (fun H locs hP hD hS => ?_)
              have hw := hw.2
              have hP : va_P (dC, dI) vwCl (wld_X10_gather cI cJ cZ h_p0 h_p2 ad_p0 n_p2 p0_places p0_steps p0_pastFirst p0_past p0_goings p0_rowSize p0_ways p0_hasField p0_fieldSize p0_faultNow p0_hasTree p0_treeSize p0_weightCount p0_roundCount p0_setCount p0_isOut p0_rows (upd p2 (((16 : Int32) * v3) + v6).toNatClampNeg (-x8).toInt32)) H := hP
              have hD : va_D A (wld_X10_gather cI cJ cZ h_p0 h_p2 ad_p0 n_p2 p0_places p0_steps p0_pastFirst p0_past p0_goings p0_rowSize p0_ways p0_hasField p0_fieldSize p0_faultNow p0_hasTree p0_treeSize p0_weightCount p0_roundCount p0_setCount p0_isOut p0_rows (upd p2 (((16 : Int32) * v3) + v6).toNatClampNeg (-x8).toInt32)) := hD
              obtain ⟨x30, ex30⟩ : ∃ y : Int32, y = v6 + (1 : Int32) := ⟨_, rfl⟩
              have hw := hw x30 ex30
              refine lv_iinc (v := x30) (lv' := [(6, .int x30), (5, .int (-1 : Int32)), (7, .long x8), (0, .ref h_p0), (1, .int v1), (2, .ref h_p2), (3, .int v3), (4, .int v4)]) hx hb dX10_gather_106 hl (k := 7) rfl (by rw [ex30]; rfl) (by decide) rfl (fun ls hl => ?_)
              refine lv_goto (tgt := 27) hx hb dX10_gather_109 (by decide) ?_
              exact ih _ _ _ hw _ _ _ hP hD hS (lv_sub hl [3, 4, 5, 6, 7, 1, 0] rfl)
set_option maxHeartbeats 4000000 in
set_option maxRecDepth 100000 in
theorem c_X10_gather_L5 {p : Program} {l : Launch} {e : Env} {s : State} {m : MethodId} {args : Array Value} {below : List Frame} {meth : Method} {c : Code} {dC : Nat → ClassId} {dI : Nat → Nat → Nat} {A : Nat → Prop} {cI cJ cZ : ClassId} {h_p0 : Nat} {h_p2 : Nat} {ad_p0 : Nat → Nat} {n_p2 : Nat} {p0_places : Int32} {p0_steps : Int32} {p0_pastFirst : Int32} {p0_past : Int32} {p0_goings : Int32} {p0_rowSize : Int32} {p0_ways : Int32} {p0_hasField : Int32} {p0_fieldSize : Int32} {p0_faultNow : Int32} {p0_hasTree : Int32} {p0_treeSize : Int32} {p0_weightCount : Int32} {p0_roundCount : Int32} {p0_setCount : Int32} {p0_isOut : Nat → Int32} {p0_rows : Nat → Int64} {v1 : Int32} {z_p2 : Nat → Int32} {post : Int32 → (Nat → Int32) → Prop} {K : (Int32) → (Int32) → (Nat → Int32) → Prop} (E0 : xEnv p s m args meth c cX10_gather (some .int) 9 RX10 wsX10_gather (dC, dI) cI cJ cZ A) (hk : ∀ (v3 : Int32) (v4 : Int32) (p2 : Nat → Int32) (H : Heap) (locs : List Loc) (ls : Array Slot), K v3 v4 p2 → va_P (dC, dI) vwCl (wld_X10_gather cI cJ cZ h_p0 h_p2 ad_p0 n_p2 p0_places p0_steps p0_pastFirst p0_past p0_goings p0_rowSize p0_ways p0_hasField p0_fieldSize p0_faultNow p0_hasTree p0_treeSize p0_weightCount p0_roundCount p0_setCount p0_isOut p0_rows p2) H → va_D A (wld_X10_gather cI cJ cZ h_p0 h_p2 ad_p0 n_p2 p0_places p0_steps p0_pastFirst p0_past p0_goings p0_rowSize p0_ways p0_hasField p0_fieldSize p0_faultNow p0_hasTree p0_treeSize p0_weightCount p0_roundCount p0_setCount p0_isOut p0_rows p2) → va_S A s.heap H locs → lv_has ls 9 [(3, .int v3)] → W p l e ({ frames := 0, cells := 0, slots := 0, locals := 0 }) s m args below meth c H locs 0 0 (MQ below (q_X10_gather dC dI cI cJ cZ h_p0 h_p2 ad_p0 n_p2 p0_places p0_steps p0_pastFirst p0_past p0_goings p0_rowSize p0_ways p0_hasField p0_fieldSize p0_faultNow p0_hasTree p0_treeSize p0_weightCount p0_roundCount p0_setCount p0_isOut p0_rows z_p2 post A) args s 0 0 A) (F0 m 121 ls [])) : ∀ (n : Nat) (v3 : Int32) (v4 : Int32) (p2 : Nat → Int32), w_X10_gather_L5 n_p2 v1 p0_isOut p0_rows post K n v3 v4 p2 → ∀ (H : Heap) (locs : List Loc) (ls : Array Slot), va_P (dC, dI) vwCl (wld_X10_gather cI cJ cZ h_p0 h_p2 ad_p0 n_p2 p0_places p0_steps p0_pastFirst p0_past p0_goings p0_rowSize p0_ways p0_hasField p0_fieldSize p0_faultNow p0_hasTree p0_treeSize p0_weightCount p0_roundCount p0_setCount p0_isOut p0_rows p2) H → va_D A (wld_X10_gather cI cJ cZ h_p0 h_p2 ad_p0 n_p2 p0_places p0_steps p0_pastFirst p0_past p0_goings p0_rowSize p0_ways p0_hasField p0_fieldSize p0_faultNow p0_hasTree p0_treeSize p0_weightCount p0_roundCount p0_setCount p0_isOut p0_rows p2) → va_S A s.heap H locs → lv_has ls 9 [(0, .ref h_p0), (1, .int v1), (2, .ref h_p2), (3, .int v3), (4, .int v4)] → W p l e ({ frames := 0, cells := 0, slots := 0, locals := 0 }) s m args below meth c H locs 0 0 (MQ below (q_X10_gather dC dI cI cJ cZ h_p0 h_p2 ad_p0 n_p2 p0_places p0_steps p0_pastFirst p0_past p0_goings p0_rowSize p0_ways p0_hasField p0_fieldSize p0_faultNow p0_hasTree p0_treeSize p0_weightCount p0_roundCount p0_setCount p0_isOut p0_rows z_p2 post A) args s 0 0 A) (F0 m 5 ls []) := by
  obtain ⟨hx, hb, hr, hml, hown, hts, hlocks, hK, hA, n1, n2⟩ := id E0
  have iX10 : ∀ w ∈ u_ws RX10 TX10 50, w ∈ wsX10_gather := fun w h => List.mem_cons_of_mem _ (List.mem_append_right _ h)
  intro n
  induction n with
  | zero => intro v3 v4 p2 hw; exact hw.elim
  | succ n ih =>
    intro v3 v4 p2 hw H locs ls hP hD hS hl
    have hw : w_X10_gather_L5b n_p2 v1 p0_isOut p0_rows post K (w_X10_gather_L5 n_p2 v1 p0_isOut p0_rows post K n) v3 v4 p2 := hw
    unfold w_X10_gather_L5b at hw
    refine lv_iload hx hb dX10_gather_5 (lv_at hl 4 rfl) ?_
    refine lv_iload_n hx hb dX10_gather_7 rfl (lv_at hl 1 rfl) ?_
    refine lv_icmp_ge (tgt := 121) hx hb dX10_gather_8 (by decide) (fun c1 => ?_) (fun c2 => ?_)
    · have hw := hw.1 c1
      exact hk _ _ _ _ _ _ hw hP hD hS (lv_sub hl [3] rfl)
    · have hw := hw.2 c2
      refine lv_aload_n hx hb dX10_gather_11 rfl (lv_at hl 0 rfl) ?_
      refine va_get (D := (dC, dI)) (ci := 10) (v := .ref (ad_p0 41)) (C := RX10) (T := TX10) (N := 50) hx hb hts iX10 hown hK hP 0 rfl rfl 41 (by decide) (hts (.fieldLink RX10 106 "NetHouseModel" "isOut" "[Z") (by decide +kernel)) (fun _ h9 => h9) rfl dX10_gather_12 ?_
      refine lv_iload hx hb dX10_gather_15 (lv_at hl 4 rfl) ?_
      refine va_zald hx hb hK hP 1 2 rfl rfl hw.1 dX10_gather_17 ?_
      have hw := hw.2
      refine lv_if_ne (tgt := 115) hx hb dX10_gather_18 (by decide) (fun c3 => ?_) (fun c4 => ?_)
      · have hw := hw.1 c3
        obtain ⟨x5, ex5⟩ : ∃ y : Int32, y = v4 + (1 : Int32) := ⟨_, rfl⟩
        have hw := hw x5 ex5
        refine lv_iinc (v := x5) (lv' := [(4, .int x5), (0, .ref h_p0), (1, .int v1), (2, .ref h_p2), (3, .int v3)]) hx hb dX10_gather_115 hl (k := 4) rfl (by rw [ex5]; rfl) (by decide) rfl (fun ls hl => ?_)
        refine lv_goto (tgt := 5) hx hb dX10_gather_118 (by decide) ?_
        exact ih _ _ _ hw _ _ _ hP hD hS (lv_sub hl [1, 2, 3, 4, 0] rfl)
      · have hw := hw.2 c4
        refine lv_iconst (v := 0) hx hb dX10_gather_21 (by decide) ?_
        refine lv_istore (lv' := [(5, .int (0 : Int32)), (0, .ref h_p0), (1, .int v1), (2, .ref h_p2), (3, .int v3), (4, .int v4)]) hx hb dX10_gather_22 hl (by decide) rfl (fun ls hl => ?_)
        refine lv_iconst (v := 0) hx hb dX10_gather_24 (by decide) ?_
        refine lv_istore (lv' := [(6, .int (0 : Int32)), (5, .int (0 : Int32)), (0, .ref h_p0), (1, .int v1), (2, .ref h_p2), (3, .int v3), (4, .int v4)]) hx hb dX10_gather_25 hl (by decide) rfl (fun ls hl => ?_)
        obtain ⟨n31, hw⟩ := hw
        refine c_X10_gather_L27 (l := l) (z_p2 := p2) E0 ?_ n31 _ _ _ hw _ _ _ hP hD hS (lv_sub hl [2, 3, 4, 5, 6, 1, 0] rfl)
        · intro v32 v33 s34 H locs ls hw hP hD hS hl
          have hP : va_P (dC, dI) vwCl (wld_X10_gather cI cJ cZ h_p0 h_p2 ad_p0 n_p2 p0_places p0_steps p0_pastFirst p0_past p0_goings p0_rowSize p0_ways p0_hasField p0_fieldSize p0_faultNow p0_hasTree p0_treeSize p0_weightCount p0_roundCount p0_setCount p0_isOut p0_rows s34) H := hP
          have hD : va_D A (wld_X10_gather cI cJ cZ h_p0 h_p2 ad_p0 n_p2 p0_places p0_steps p0_pastFirst p0_past p0_goings p0_rowSize p0_ways p0_hasField p0_fieldSize p0_faultNow p0_hasTree p0_treeSize p0_weightCount p0_roundCount p0_setCount p0_isOut p0_rows s34) := hD
          obtain ⟨x35, ex35⟩ : ∃ y : Int32, y = v3 + (1 : Int32) := ⟨_, rfl⟩
          have hw := hw x35 ex35
          refine lv_iinc (v := x35) (lv' := [(3, .int x35), (0, .ref h_p0), (1, .int v1), (2, .ref h_p2), (4, .int v4)]) hx hb dX10_gather_112 hl (k := 3) rfl (by rw [ex35]; rfl) (by decide) rfl (fun ls hl => ?_)
          obtain ⟨x36, ex36⟩ : ∃ y : Int32, y = v4 + (1 : Int32) := ⟨_, rfl⟩
          have hw := hw x36 ex36
          refine lv_iinc (v := x36) (lv' := [(4, .int x36), (3, .int x35), (0, .ref h_p0), (1, .int v1), (2, .ref h_p2)]) hx hb dX10_gather_115 hl (k := 4) rfl (by rw [ex36]; rfl) (by decide) rfl (fun ls hl => ?_)
          refine lv_goto (tgt := 5) hx hb dX10_gather_118 (by decide) ?_
          exact ih _ _ _ hw _ _ _ hP hD hS (lv_sub hl [2, 3, 4, 1, 0] rfl)
set_option maxHeartbeats 4000000 in
set_option maxRecDepth 100000 in
theorem c_X10_gather {l : Launch} {dC : Nat → ClassId} {dI : Nat → Nat → Nat} {sz : Nat} {cI cJ cZ : ClassId} {h_p0 : Nat} {h_p2 : Nat} {ad_p0 : Nat → Nat} {n_p2 : Nat} {p0_places : Int32} {p0_steps : Int32} {p0_pastFirst : Int32} {p0_past : Int32} {p0_goings : Int32} {p0_rowSize : Int32} {p0_ways : Int32} {p0_hasField : Int32} {p0_fieldSize : Int32} {p0_faultNow : Int32} {p0_hasTree : Int32} {p0_treeSize : Int32} {p0_weightCount : Int32} {p0_roundCount : Int32} {p0_setCount : Int32} {p0_isOut : Nat → Int32} {p0_rows : Nat → Int64} {p2 : Nat → Int32} {a1 : Int32} {post : Int32 → (Nat → Int32) → Prop} (hw : w_X10_gather n_p2 p0_isOut p0_rows p2 a1 post) : Met l yX10_gather wsX10_gather ({ frames := 0, cells := 0, slots := 0, locals := 0 }) (va_Pc [.ref h_p0, .int a1, .ref h_p2] (xPre (dC, dI) cI cJ cZ (wld_X10_gather cI cJ cZ h_p0 h_p2 ad_p0 n_p2 p0_places p0_steps p0_pastFirst p0_past p0_goings p0_rowSize p0_ways p0_hasField p0_fieldSize p0_faultNow p0_hasTree p0_treeSize p0_weightCount p0_roundCount p0_setCount p0_isOut p0_rows p2) sz)) (q_X10_gather dC dI cI cJ cZ h_p0 h_p2 ad_p0 n_p2 p0_places p0_steps p0_pastFirst p0_past p0_goings p0_rowSize p0_ways p0_hasField p0_fieldSize p0_faultNow p0_hasTree p0_treeSize p0_weightCount p0_roundCount p0_setCount p0_isOut p0_rows p2 post (va_A (wld_X10_gather cI cJ cZ h_p0 h_p2 ad_p0 n_p2 p0_places p0_steps p0_pastFirst p0_past p0_goings p0_rowSize p0_ways p0_hasField p0_fieldSize p0_faultNow p0_hasTree p0_treeSize p0_weightCount p0_roundCount p0_setCount p0_isOut p0_rows p2) sz)) 0 0 (va_A (wld_X10_gather cI cJ cZ h_p0 h_p2 ad_p0 n_p2 p0_places p0_steps p0_pastFirst p0_past p0_goings p0_rowSize p0_ways p0_hasField p0_fieldSize p0_faultNow p0_hasTree p0_treeSize p0_weightCount p0_roundCount p0_setCount p0_isOut p0_rows p2) sz) := by
  refine x_met (cc := cX10_gather) (maxL := 9) (ret := (some .int)) (own := RX10) (Qc := fun A => (q_X10_gather dC dI cI cJ cZ h_p0 h_p2 ad_p0 n_p2 p0_places p0_steps p0_pastFirst p0_past p0_goings p0_rowSize p0_ways p0_hasField p0_fieldSize p0_faultNow p0_hasTree p0_treeSize p0_weightCount p0_roundCount p0_setCount p0_isOut p0_rows p2 post A)) (by decide) rfl rfl (Nat.le_of_ble_eq_true rfl) ?_
  intro p e s m args below meth c A ls E0 hP hD hS hl
  obtain ⟨hx, hb, hr, hml, hown, hts, hlocks, hK, hA, n1, n2⟩ := id E0
  have iX10 : ∀ w ∈ u_ws RX10 TX10 50, w ∈ wsX10_gather := fun w h => List.mem_cons_of_mem _ (List.mem_append_right _ h)
  have hS0 := hS
  have hl : lv_has ls 9 [(0, .ref h_p0), (1, .int a1), (2, .ref h_p2)] := hl
  unfold w_X10_gather at hw
  obtain ⟨H, hH⟩ : ∃ H, H = s.heap := ⟨_, rfl⟩
  have hS : va_S A s.heap H [] := by rw [hH]; exact hS
  have hP : va_P (dC, dI) vwCl (wld_X10_gather cI cJ cZ h_p0 h_p2 ad_p0 n_p2 p0_places p0_steps p0_pastFirst p0_past p0_goings p0_rowSize p0_ways p0_hasField p0_fieldSize p0_faultNow p0_hasTree p0_treeSize p0_weightCount p0_roundCount p0_setCount p0_isOut p0_rows p2) H := by rw [hH]; exact hP
  suffices hG : W p l e ({ frames := 0, cells := 0, slots := 0, locals := 0 }) s m args below meth c H [] 0 0 (MQ below (q_X10_gather dC dI cI cJ cZ h_p0 h_p2 ad_p0 n_p2 p0_places p0_steps p0_pastFirst p0_past p0_goings p0_rowSize p0_ways p0_hasField p0_fieldSize p0_faultNow p0_hasTree p0_treeSize p0_weightCount p0_roundCount p0_setCount p0_isOut p0_rows p2 post A) args s 0 0 A) (F0 m 0 ls []) by rw [hH] at hG; exact hG
  clear hH
  refine lv_iconst (v := 0) hx hb dX10_gather_0 (by decide) ?_
  refine lv_istore_n (lv' := [(3, .int (0 : Int32)), (0, .ref h_p0), (1, .int a1), (2, .ref h_p2)]) hx hb dX10_gather_1 rfl hl (by decide) rfl (fun ls hl => ?_)
  refine lv_iconst (v := 0) hx hb dX10_gather_2 (by decide) ?_
  refine lv_istore (lv' := [(4, .int (0 : Int32)), (3, .int (0 : Int32)), (0, .ref h_p0), (1, .int a1), (2, .ref h_p2)]) hx hb dX10_gather_3 hl (by decide) rfl (fun ls hl => ?_)
  obtain ⟨n37, hw⟩ := hw
  refine c_X10_gather_L5 (l := l) (z_p2 := p2) E0 ?_ n37 _ _ _ hw _ _ _ hP hD hS (lv_sub hl [2, 3, 4, 1, 0] rfl)
  · intro v38 v39 s40 H locs ls hw hP hD hS hl
    have hP : va_P (dC, dI) vwCl (wld_X10_gather cI cJ cZ h_p0 h_p2 ad_p0 n_p2 p0_places p0_steps p0_pastFirst p0_past p0_goings p0_rowSize p0_ways p0_hasField p0_fieldSize p0_faultNow p0_hasTree p0_treeSize p0_weightCount p0_roundCount p0_setCount p0_isOut p0_rows s40) H := hP
    have hD : va_D A (wld_X10_gather cI cJ cZ h_p0 h_p2 ad_p0 n_p2 p0_places p0_steps p0_pastFirst p0_past p0_goings p0_rowSize p0_ways p0_hasField p0_fieldSize p0_faultNow p0_hasTree p0_treeSize p0_weightCount p0_roundCount p0_setCount p0_isOut p0_rows s40) := hD
    refine lv_iload_n hx hb dX10_gather_121 rfl (lv_at hl 0 rfl) ?_
    exact x_iret (w1 := fun (u : (Nat → Int32)) => (wld_X10_gather cI cJ cZ h_p0 h_p2 ad_p0 n_p2 p0_places p0_steps p0_pastFirst p0_past p0_goings p0_rowSize p0_ways p0_hasField p0_fieldSize p0_faultNow p0_hasTree p0_treeSize p0_weightCount p0_roundCount p0_setCount p0_isOut p0_rows u)) hx hb hr hlocks (s40) hw hP hD hS dX10_gather_122
abbrev wld_X10_change (cI cJ cZ : ClassId) (h_p0 : Nat) (ad_p0 : Nat → Nat) (p0_places : Int32) (p0_steps : Int32) (p0_pastFirst : Int32) (p0_past : Int32) (p0_goings : Int32) (p0_rowSize : Int32) (p0_ways : Int32) (p0_hasField : Int32) (p0_fieldSize : Int32) (p0_faultNow : Int32) (p0_hasTree : Int32) (p0_treeSize : Int32) (p0_weightCount : Int32) (p0_roundCount : Int32) (p0_setCount : Int32) (p0_puts : Nat → Int32) (p0_takes : Nat → Int32) : va_W := [(h_p0, .inr (10, [.int p0_places, .int p0_steps, .ref (ad_p0 2), .ref (ad_p0 3), .ref (ad_p0 4), .ref (ad_p0 5), .ref (ad_p0 6), .ref (ad_p0 7), .ref (ad_p0 8), .ref (ad_p0 9), .ref (ad_p0 10), .ref (ad_p0 11), .ref (ad_p0 12), .ref (ad_p0 13), .ref (ad_p0 14), .int p0_pastFirst, .int p0_past, .int p0_goings, .int p0_rowSize, .ref (ad_p0 19), .ref (ad_p0 20), .int p0_ways, .ref (ad_p0 22), .ref (ad_p0 23), .int p0_hasField, .int p0_fieldSize, .ref (ad_p0 26), .ref (ad_p0 27), .ref (ad_p0 28), .ref (ad_p0 29), .ref (ad_p0 30), .ref (ad_p0 31), .ref (ad_p0 32), .int p0_faultNow, .int p0_hasTree, .int p0_treeSize, .ref (ad_p0 36), .ref (ad_p0 37), .ref (ad_p0 38), .ref (ad_p0 39), .ref (ad_p0 40), .ref (ad_p0 41), .ref (ad_p0 42), .int p0_weightCount, .ref (ad_p0 44), .int p0_roundCount, .ref (ad_p0 46), .int p0_setCount, .ref (ad_p0 48), .ref (ad_p0 49)])), ((ad_p0 5), .inl (cI, 256, .inl p0_puts)), ((ad_p0 4), .inl (cI, 256, .inl p0_takes))]
abbrev q_X10_change (dC : Nat → ClassId) (dI : Nat → Nat → Nat) (cI cJ cZ : ClassId) (h_p0 : Nat) (ad_p0 : Nat → Nat) (p0_places : Int32) (p0_steps : Int32) (p0_pastFirst : Int32) (p0_past : Int32) (p0_goings : Int32) (p0_rowSize : Int32) (p0_ways : Int32) (p0_hasField : Int32) (p0_fieldSize : Int32) (p0_faultNow : Int32) (p0_hasTree : Int32) (p0_treeSize : Int32) (p0_weightCount : Int32) (p0_roundCount : Int32) (p0_setCount : Int32) (p0_puts : Nat → Int32) (p0_takes : Nat → Int32) (post : Int32 → Prop) (A : Nat → Prop) : Array Value → State → Outcome → State → Prop := va_Qi (fun r (u : Unit) => post r ) (fun (u : Unit) t => xPost (dC, dI) A (wld_X10_change cI cJ cZ h_p0 ad_p0 p0_places p0_steps p0_pastFirst p0_past p0_goings p0_rowSize p0_ways p0_hasField p0_fieldSize p0_faultNow p0_hasTree p0_treeSize p0_weightCount p0_roundCount p0_setCount p0_puts p0_takes) t) A
def w_X10_change (p0_puts : Nat → Int32) (p0_takes : Nat → Int32) (a1 : Int32) (a2 : Int32) (post : Int32 → Prop) : Prop :=
  vp_in (((16 : Int32) * a1) + a2) 256 ∧
  vp_in (((16 : Int32) * a1) + a2) 256 ∧
  (post ((p0_puts (((16 : Int32) * a1) + a2).toNatClampNeg) - (p0_takes (((16 : Int32) * a1) + a2).toNatClampNeg)))
set_option maxHeartbeats 4000000 in
set_option maxRecDepth 100000 in
theorem c_X10_change {l : Launch} {dC : Nat → ClassId} {dI : Nat → Nat → Nat} {sz : Nat} {cI cJ cZ : ClassId} {h_p0 : Nat} {ad_p0 : Nat → Nat} {p0_places : Int32} {p0_steps : Int32} {p0_pastFirst : Int32} {p0_past : Int32} {p0_goings : Int32} {p0_rowSize : Int32} {p0_ways : Int32} {p0_hasField : Int32} {p0_fieldSize : Int32} {p0_faultNow : Int32} {p0_hasTree : Int32} {p0_treeSize : Int32} {p0_weightCount : Int32} {p0_roundCount : Int32} {p0_setCount : Int32} {p0_puts : Nat → Int32} {p0_takes : Nat → Int32} {a1 : Int32} {a2 : Int32} {post : Int32 → Prop} (hw : w_X10_change p0_puts p0_takes a1 a2 post) : Met l yX10_change wsX10_change ({ frames := 0, cells := 0, slots := 0, locals := 0 }) (va_Pc [.ref h_p0, .int a1, .int a2] (xPre (dC, dI) cI cJ cZ (wld_X10_change cI cJ cZ h_p0 ad_p0 p0_places p0_steps p0_pastFirst p0_past p0_goings p0_rowSize p0_ways p0_hasField p0_fieldSize p0_faultNow p0_hasTree p0_treeSize p0_weightCount p0_roundCount p0_setCount p0_puts p0_takes) sz)) (q_X10_change dC dI cI cJ cZ h_p0 ad_p0 p0_places p0_steps p0_pastFirst p0_past p0_goings p0_rowSize p0_ways p0_hasField p0_fieldSize p0_faultNow p0_hasTree p0_treeSize p0_weightCount p0_roundCount p0_setCount p0_puts p0_takes post (va_A (wld_X10_change cI cJ cZ h_p0 ad_p0 p0_places p0_steps p0_pastFirst p0_past p0_goings p0_rowSize p0_ways p0_hasField p0_fieldSize p0_faultNow p0_hasTree p0_treeSize p0_weightCount p0_roundCount p0_setCount p0_puts p0_takes) sz)) 0 0 (va_A (wld_X10_change cI cJ cZ h_p0 ad_p0 p0_places p0_steps p0_pastFirst p0_past p0_goings p0_rowSize p0_ways p0_hasField p0_fieldSize p0_faultNow p0_hasTree p0_treeSize p0_weightCount p0_roundCount p0_setCount p0_puts p0_takes) sz) := by
  refine x_met (cc := cX10_change) (maxL := 3) (ret := (some .int)) (own := RX10) (Qc := fun A => (q_X10_change dC dI cI cJ cZ h_p0 ad_p0 p0_places p0_steps p0_pastFirst p0_past p0_goings p0_rowSize p0_ways p0_hasField p0_fieldSize p0_faultNow p0_hasTree p0_treeSize p0_weightCount p0_roundCount p0_setCount p0_puts p0_takes post A)) (by decide) rfl rfl (Nat.le_of_ble_eq_true rfl) ?_
  intro p e s m args below meth c A ls E0 hP hD hS hl
  obtain ⟨hx, hb, hr, hml, hown, hts, hlocks, hK, hA, n1, n2⟩ := id E0
  have iX10 : ∀ w ∈ u_ws RX10 TX10 50, w ∈ wsX10_change := fun w h => List.mem_cons_of_mem _ (List.mem_append_right _ h)
  have hS0 := hS
  have hl : lv_has ls 3 [(0, .ref h_p0), (1, .int a1), (2, .int a2)] := hl
  unfold w_X10_change at hw
  obtain ⟨H, hH⟩ : ∃ H, H = s.heap := ⟨_, rfl⟩
  have hS : va_S A s.heap H [] := by rw [hH]; exact hS
  have hP : va_P (dC, dI) vwCl (wld_X10_change cI cJ cZ h_p0 ad_p0 p0_places p0_steps p0_pastFirst p0_past p0_goings p0_rowSize p0_ways p0_hasField p0_fieldSize p0_faultNow p0_hasTree p0_treeSize p0_weightCount p0_roundCount p0_setCount p0_puts p0_takes) H := by rw [hH]; exact hP
  suffices hG : W p l e ({ frames := 0, cells := 0, slots := 0, locals := 0 }) s m args below meth c H [] 0 0 (MQ below (q_X10_change dC dI cI cJ cZ h_p0 ad_p0 p0_places p0_steps p0_pastFirst p0_past p0_goings p0_rowSize p0_ways p0_hasField p0_fieldSize p0_faultNow p0_hasTree p0_treeSize p0_weightCount p0_roundCount p0_setCount p0_puts p0_takes post A) args s 0 0 A) (F0 m 0 ls []) by rw [hH] at hG; exact hG
  clear hH
  refine lv_aload_n hx hb dX10_change_0 rfl (lv_at hl 0 rfl) ?_
  refine va_get (D := (dC, dI)) (ci := 10) (v := .ref (ad_p0 5)) (C := RX10) (T := TX10) (N := 50) hx hb hts iX10 hown hK hP 0 rfl rfl 5 (by decide) (hts (.fieldLink RX10 19 "NetHouseModel" "puts" "[I") (by decide +kernel)) (fun _ h9 => h9) rfl dX10_change_1 ?_
  refine lv_bipush (v := 16) hx hb dX10_change_4 (by decide) ?_
  refine lv_iload_n hx hb dX10_change_6 rfl (lv_at hl 1 rfl) ?_
  refine lv_imul hx hb dX10_change_7 ?_
  refine lv_iload_n hx hb dX10_change_8 rfl (lv_at hl 2 rfl) ?_
  refine lv_iadd hx hb dX10_change_9 ?_
  refine va_iald hx hb hK hP 1 0 rfl rfl hw.1 dX10_change_10 ?_
  have hw := hw.2
  refine lv_aload_n hx hb dX10_change_11 rfl (lv_at hl 0 rfl) ?_
  refine va_get (D := (dC, dI)) (ci := 10) (v := .ref (ad_p0 4)) (C := RX10) (T := TX10) (N := 50) hx hb hts iX10 hown hK hP 0 rfl rfl 4 (by decide) (hts (.fieldLink RX10 16 "NetHouseModel" "takes" "[I") (by decide +kernel)) (fun _ h9 => h9) rfl dX10_change_12 ?_
  refine lv_bipush (v := 16) hx hb dX10_change_15 (by decide) ?_
  refine lv_iload_n hx hb dX10_change_17 rfl (lv_at hl 1 rfl) ?_
  refine lv_imul hx hb dX10_change_18 ?_
  refine lv_iload_n hx hb dX10_change_19 rfl (lv_at hl 2 rfl) ?_
  refine lv_iadd hx hb dX10_change_20 ?_
  refine va_iald hx hb hK hP 2 0 rfl rfl hw.1 dX10_change_21 ?_
  have hw := hw.2
  refine lv_isub hx hb dX10_change_22 ?_
  exact x_iret (w1 := fun (u : Unit) => (wld_X10_change cI cJ cZ h_p0 ad_p0 p0_places p0_steps p0_pastFirst p0_past p0_goings p0_rowSize p0_ways p0_hasField p0_fieldSize p0_faultNow p0_hasTree p0_treeSize p0_weightCount p0_roundCount p0_setCount p0_puts p0_takes)) hx hb hr hlocks () hw hP hD hS dX10_change_23
abbrev wld_X10_layRows (cI cJ cZ : ClassId) (h_p0 : Nat) (ad_p0 : Nat → Nat) (p0_places : Int32) (p0_steps : Int32) (p0_pastFirst : Int32) (p0_past : Int32) (p0_goings : Int32) (p0_rowSize : Int32) (p0_ways : Int32) (p0_hasField : Int32) (p0_fieldSize : Int32) (p0_faultNow : Int32) (p0_hasTree : Int32) (p0_treeSize : Int32) (p0_weightCount : Int32) (p0_roundCount : Int32) (p0_setCount : Int32) (p0_isOut : Nat → Int32) (p0_puts : Nat → Int32) (p0_rows : Nat → Int64) (p0_takes : Nat → Int32) : va_W := [(h_p0, .inr (10, [.int p0_places, .int p0_steps, .ref (ad_p0 2), .ref (ad_p0 3), .ref (ad_p0 4), .ref (ad_p0 5), .ref (ad_p0 6), .ref (ad_p0 7), .ref (ad_p0 8), .ref (ad_p0 9), .ref (ad_p0 10), .ref (ad_p0 11), .ref (ad_p0 12), .ref (ad_p0 13), .ref (ad_p0 14), .int p0_pastFirst, .int p0_past, .int p0_goings, .int p0_rowSize, .ref (ad_p0 19), .ref (ad_p0 20), .int p0_ways, .ref (ad_p0 22), .ref (ad_p0 23), .int p0_hasField, .int p0_fieldSize, .ref (ad_p0 26), .ref (ad_p0 27), .ref (ad_p0 28), .ref (ad_p0 29), .ref (ad_p0 30), .ref (ad_p0 31), .ref (ad_p0 32), .int p0_faultNow, .int p0_hasTree, .int p0_treeSize, .ref (ad_p0 36), .ref (ad_p0 37), .ref (ad_p0 38), .ref (ad_p0 39), .ref (ad_p0 40), .ref (ad_p0 41), .ref (ad_p0 42), .int p0_weightCount, .ref (ad_p0 44), .int p0_roundCount, .ref (ad_p0 46), .int p0_setCount, .ref (ad_p0 48), .ref (ad_p0 49)])), ((ad_p0 41), .inl (cZ, 16, .inl p0_isOut)), ((ad_p0 5), .inl (cI, 256, .inl p0_puts)), ((ad_p0 40), .inl (cJ, 512, .inr (.inl p0_rows))), ((ad_p0 4), .inl (cI, 256, .inl p0_takes))]
abbrev q_X10_layRows (dC : Nat → ClassId) (dI : Nat → Nat → Nat) (cI cJ cZ : ClassId) (h_p0 : Nat) (ad_p0 : Nat → Nat) (p0_places : Int32) (p0_steps : Int32) (p0_pastFirst : Int32) (p0_past : Int32) (p0_goings : Int32) (p0_rowSize : Int32) (p0_ways : Int32) (p0_hasField : Int32) (p0_fieldSize : Int32) (p0_faultNow : Int32) (p0_hasTree : Int32) (p0_treeSize : Int32) (p0_weightCount : Int32) (p0_roundCount : Int32) (p0_setCount : Int32) (p0_isOut : Nat → Int32) (p0_puts : Nat → Int32) (p0_rows : Nat → Int64) (p0_takes : Nat → Int32) (post : (Nat → Int32) → (Nat → Int64) → Prop) (A : Nat → Prop) : Array Value → State → Outcome → State → Prop := va_Qv (fun (u : (Nat → Int32) × (Nat → Int64)) => post (u.1) (u.2)) (fun (u : (Nat → Int32) × (Nat → Int64)) t => xPost (dC, dI) A (wld_X10_layRows cI cJ cZ h_p0 ad_p0 p0_places p0_steps p0_pastFirst p0_past p0_goings p0_rowSize p0_ways p0_hasField p0_fieldSize p0_faultNow p0_hasTree p0_treeSize p0_weightCount p0_roundCount p0_setCount (u.1) p0_puts (u.2) p0_takes) t) A
def w_X10_layRows_L21b (v1 : Int32) (v2 : Int32) (v3 : Int32) (v4 : Int32) (p0_isOut : Nat → Int32) (p0_puts : Nat → Int32) (p0_takes : Nat → Int32) (post : (Nat → Int32) → (Nat → Int64) → Prop) (K : (Int32) → (Nat → Int64) → Prop) (rec : (Int32) → (Nat → Int64) → Prop) (v5 : Int32) (p0_rows : Nat → Int64) : Prop :=
    ((32 : Int32) ≤ v5 →
      K v5 p0_rows) ∧
    (¬ (32 : Int32) ≤ v5 →
      (¬ v5 = ((16 : Int32) + v4) →
        vp_in (((32 : Int32) * v4) + v5) 512 ∧
        ∀ x7 : Int32, x7 = v5 + (1 : Int32) →
        rec x7 (vp_updL p0_rows (((32 : Int32) * v4) + v5).toNatClampNeg (0 : Int64))) ∧
      (v5 = ((16 : Int32) + v4) →
        vp_in (((32 : Int32) * v4) + v5) 512 ∧
        ∀ x8 : Int32, x8 = v5 + (1 : Int32) →
        rec x8 (vp_updL p0_rows (((32 : Int32) * v4) + v5).toNatClampNeg (1 : Int64))))
def w_X10_layRows_L21 (v1 : Int32) (v2 : Int32) (v3 : Int32) (v4 : Int32) (p0_isOut : Nat → Int32) (p0_puts : Nat → Int32) (p0_takes : Nat → Int32) (post : (Nat → Int32) → (Nat → Int64) → Prop) (K : (Int32) → (Nat → Int64) → Prop) : Nat → (Int32) → (Nat → Int64) → Prop
  | 0, _, _ => False
  | n + 1, v5, p0_rows => w_X10_layRows_L21b v1 v2 v3 v4 p0_isOut p0_puts p0_takes post K (w_X10_layRows_L21 v1 v2 v3 v4 p0_isOut p0_puts p0_takes post K n) v5 p0_rows
def w_X10_layRows_L65b (v1 : Int32) (v2 : Int32) (v3 : Int32) (v4 : Int32) (p0_isOut : Nat → Int32) (p0_puts : Nat → Int32) (p0_takes : Nat → Int32) (post : (Nat → Int32) → (Nat → Int64) → Prop) (K : (Int32) → (Nat → Int64) → Prop) (rec : (Int32) → (Nat → Int64) → Prop) (v5 : Int32) (p0_rows : Nat → Int64) : Prop :=
    (v2 ≤ v5 →
      K v5 p0_rows) ∧
    (¬ v2 ≤ v5 →
      (v1 ≤ v4 →
        K v5 p0_rows) ∧
      (¬ v1 ≤ v4 →
        (v3 = 0 →
          w_X10_change p0_puts p0_takes v4 v5 (fun r18 =>
          vp_in (((32 : Int32) * v4) + v5) 512 ∧
          ∀ x19 : Int32, x19 = v5 + (1 : Int32) →
          rec x19 (vp_updL p0_rows (((32 : Int32) * v4) + v5).toNatClampNeg r18.toInt64))) ∧
        (¬ v3 = 0 →
          w_X10_change p0_puts p0_takes v5 v4 (fun r20 =>
          vp_in (((32 : Int32) * v4) + v5) 512 ∧
          ∀ x21 : Int32, x21 = v5 + (1 : Int32) →
          rec x21 (vp_updL p0_rows (((32 : Int32) * v4) + v5).toNatClampNeg r20.toInt64)))))
def w_X10_layRows_L65 (v1 : Int32) (v2 : Int32) (v3 : Int32) (v4 : Int32) (p0_isOut : Nat → Int32) (p0_puts : Nat → Int32) (p0_takes : Nat → Int32) (post : (Nat → Int32) → (Nat → Int64) → Prop) (K : (Int32) → (Nat → Int64) → Prop) : Nat → (Int32) → (Nat → Int64) → Prop
  | 0, _, _ => False
  | n + 1, v5, p0_rows => w_X10_layRows_L65b v1 v2 v3 v4 p0_isOut p0_puts p0_takes post K (w_X10_layRows_L65 v1 v2 v3 v4 p0_isOut p0_puts p0_takes post K n) v5 p0_rows
def w_X10_layRows_L3b (v1 : Int32) (v2 : Int32) (v3 : Int32) (p0_puts : Nat → Int32) (p0_takes : Nat → Int32) (post : (Nat → Int32) → (Nat → Int64) → Prop) (K : (Int32) → (Nat → Int32) → (Nat → Int64) → Prop) (rec : (Int32) → (Nat → Int32) → (Nat → Int64) → Prop) (v4 : Int32) (p0_isOut : Nat → Int32) (p0_rows : Nat → Int64) : Prop :=
    ((16 : Int32) ≤ v4 →
      K v4 p0_isOut p0_rows) ∧
    (¬ (16 : Int32) ≤ v4 →
      vp_in v4 16 ∧
      ∃ n : Nat, w_X10_layRows_L21 v1 v2 v3 v4 (upd p0_isOut v4.toNatClampNeg (vp_nar .boolean (0 : Int32))) p0_puts p0_takes post (fun v10 s11 =>
          ∃ n : Nat, w_X10_layRows_L65 v1 v2 v3 v4 (upd p0_isOut v4.toNatClampNeg (vp_nar .boolean (0 : Int32))) p0_puts p0_takes post (fun v23 s24 =>
              ∀ x25 : Int32, x25 = v4 + (1 : Int32) →
              rec x25 (upd p0_isOut v4.toNatClampNeg (vp_nar .boolean (0 : Int32))) s24) n (0 : Int32) s11) n (0 : Int32) p0_rows)
def w_X10_layRows_L3 (v1 : Int32) (v2 : Int32) (v3 : Int32) (p0_puts : Nat → Int32) (p0_takes : Nat → Int32) (post : (Nat → Int32) → (Nat → Int64) → Prop) (K : (Int32) → (Nat → Int32) → (Nat → Int64) → Prop) : Nat → (Int32) → (Nat → Int32) → (Nat → Int64) → Prop
  | 0, _, _, _ => False
  | n + 1, v4, p0_isOut, p0_rows => w_X10_layRows_L3b v1 v2 v3 p0_puts p0_takes post K (w_X10_layRows_L3 v1 v2 v3 p0_puts p0_takes post K n) v4 p0_isOut p0_rows
def w_X10_layRows (p0_isOut : Nat → Int32) (p0_puts : Nat → Int32) (p0_rows : Nat → Int64) (p0_takes : Nat → Int32) (a1 : Int32) (a2 : Int32) (a3 : Int32) (post : (Nat → Int32) → (Nat → Int64) → Prop) : Prop :=
  ∃ n : Nat, w_X10_layRows_L3 a1 a2 a3 p0_puts p0_takes post (fun v27 s28 s29 =>
      (post s28 s29)) n (0 : Int32) p0_isOut p0_rows
set_option maxHeartbeats 4000000 in
set_option maxRecDepth 100000 in
theorem c_X10_layRows_L21 {p : Program} {l : Launch} {e : Env} {s : State} {m : MethodId} {args : Array Value} {below : List Frame} {meth : Method} {c : Code} {dC : Nat → ClassId} {dI : Nat → Nat → Nat} {A : Nat → Prop} {cI cJ cZ : ClassId} {h_p0 : Nat} {ad_p0 : Nat → Nat} {p0_places : Int32} {p0_steps : Int32} {p0_pastFirst : Int32} {p0_past : Int32} {p0_goings : Int32} {p0_rowSize : Int32} {p0_ways : Int32} {p0_hasField : Int32} {p0_fieldSize : Int32} {p0_faultNow : Int32} {p0_hasTree : Int32} {p0_treeSize : Int32} {p0_weightCount : Int32} {p0_roundCount : Int32} {p0_setCount : Int32} {p0_isOut : Nat → Int32} {p0_puts : Nat → Int32} {p0_takes : Nat → Int32} {v1 : Int32} {v2 : Int32} {v3 : Int32} {v4 : Int32} {z_p0_rows : Nat → Int64} {post : (Nat → Int32) → (Nat → Int64) → Prop} {K : (Int32) → (Nat → Int64) → Prop} (E0 : xEnv p s m args meth c cX10_layRows none 6 RX10 wsX10_layRows (dC, dI) cI cJ cZ A) (hk : ∀ (v5 : Int32) (p0_rows : Nat → Int64) (H : Heap) (locs : List Loc) (ls : Array Slot), K v5 p0_rows → va_P (dC, dI) vwCl (wld_X10_layRows cI cJ cZ h_p0 ad_p0 p0_places p0_steps p0_pastFirst p0_past p0_goings p0_rowSize p0_ways p0_hasField p0_fieldSize p0_faultNow p0_hasTree p0_treeSize p0_weightCount p0_roundCount p0_setCount p0_isOut p0_puts p0_rows p0_takes) H → va_D A (wld_X10_layRows cI cJ cZ h_p0 ad_p0 p0_places p0_steps p0_pastFirst p0_past p0_goings p0_rowSize p0_ways p0_hasField p0_fieldSize p0_faultNow p0_hasTree p0_treeSize p0_weightCount p0_roundCount p0_setCount p0_isOut p0_puts p0_rows p0_takes) → va_S A s.heap H locs → lv_has ls 6 [(0, .ref h_p0), (1, .int v1), (2, .int v2), (3, .int v3), (4, .int v4)] → W p l e ({ frames := 1, cells := 0, slots := 0, locals := 22 }) s m args below meth c H locs 0 0 (MQ below (q_X10_layRows dC dI cI cJ cZ h_p0 ad_p0 p0_places p0_steps p0_pastFirst p0_past p0_goings p0_rowSize p0_ways p0_hasField p0_fieldSize p0_faultNow p0_hasTree p0_treeSize p0_weightCount p0_roundCount p0_setCount p0_isOut p0_puts z_p0_rows p0_takes post A) args s 0 0 A) (F0 m 62 ls [])) : ∀ (n : Nat) (v5 : Int32) (p0_rows : Nat → Int64), w_X10_layRows_L21 v1 v2 v3 v4 p0_isOut p0_puts p0_takes post K n v5 p0_rows → ∀ (H : Heap) (locs : List Loc) (ls : Array Slot), va_P (dC, dI) vwCl (wld_X10_layRows cI cJ cZ h_p0 ad_p0 p0_places p0_steps p0_pastFirst p0_past p0_goings p0_rowSize p0_ways p0_hasField p0_fieldSize p0_faultNow p0_hasTree p0_treeSize p0_weightCount p0_roundCount p0_setCount p0_isOut p0_puts p0_rows p0_takes) H → va_D A (wld_X10_layRows cI cJ cZ h_p0 ad_p0 p0_places p0_steps p0_pastFirst p0_past p0_goings p0_rowSize p0_ways p0_hasField p0_fieldSize p0_faultNow p0_hasTree p0_treeSize p0_weightCount p0_roundCount p0_setCount p0_isOut p0_puts p0_rows p0_takes) → va_S A s.heap H locs → lv_has ls 6 [(0, .ref h_p0), (1, .int v1), (2, .int v2), (3, .int v3), (4, .int v4), (5, .int v5)] → W p l e ({ frames := 1, cells := 0, slots := 0, locals := 22 }) s m args below meth c H locs 0 0 (MQ below (q_X10_layRows dC dI cI cJ cZ h_p0 ad_p0 p0_places p0_steps p0_pastFirst p0_past p0_goings p0_rowSize p0_ways p0_hasField p0_fieldSize p0_faultNow p0_hasTree p0_treeSize p0_weightCount p0_roundCount p0_setCount p0_isOut p0_puts z_p0_rows p0_takes post A) args s 0 0 A) (F0 m 21 ls []) := by
  obtain ⟨hx, hb, hr, hml, hown, hts, hlocks, hK, hA, n1, n2⟩ := id E0
  have iX10 : ∀ w ∈ u_ws RX10 TX10 50, w ∈ wsX10_layRows := fun w h => List.mem_cons_of_mem _ (List.mem_append_right _ h)
  intro n
  induction n with
  | zero => intro v5 p0_rows hw; exact hw.elim
  | succ n ih =>
    intro v5 p0_rows hw H locs ls hP hD hS hl
    have hw : w_X10_layRows_L21b v1 v2 v3 v4 p0_isOut p0_puts p0_takes post K (w_X10_layRows_L21 v1 v2 v3 v4 p0_isOut p0_puts p0_takes post K n) v5 p0_rows := hw
    unfold w_X10_layRows_L21b at hw
    refine lv_iload hx hb dX10_layRows_21 (lv_at hl 5 rfl) ?_
    refine lv_bipush (v := 32) hx hb dX10_layRows_23 (by decide) ?_
    refine lv_icmp_ge (tgt := 62) hx hb dX10_layRows_25 (by decide) (fun c3 => ?_) (fun c4 => ?_)
    · have hw := hw.1 c3
      exact hk _ _ _ _ _ hw hP hD hS (lv_sub hl [0, 1, 2, 3, 4] rfl)
    · have hw := hw.2 c4
      refine lv_aload_n hx hb dX10_layRows_28 rfl (lv_at hl 0 rfl) ?_
      refine va_get (D := (dC, dI)) (ci := 10) (v := .ref (ad_p0 40)) (C := RX10) (T := TX10) (N := 50) hx hb hts iX10 hown hK hP 0 rfl rfl 40 (by decide) (hts (.fieldLink RX10 102 "NetHouseModel" "rows" "[J") (by decide +kernel)) (fun _ h9 => h9) rfl dX10_layRows_29 ?_
      refine lv_bipush (v := 32) hx hb dX10_layRows_32 (by decide) ?_
      refine lv_iload hx hb dX10_layRows_34 (lv_at hl 4 rfl) ?_
      refine lv_imul hx hb dX10_layRows_36 ?_
      refine lv_iload hx hb dX10_layRows_37 (lv_at hl 5 rfl) ?_
      refine lv_iadd hx hb dX10_layRows_39 ?_
      refine lv_iload hx hb dX10_layRows_40 (lv_at hl 5 rfl) ?_
      refine lv_bipush (v := 16) hx hb dX10_layRows_42 (by decide) ?_
      refine lv_iload hx hb dX10_layRows_44 (lv_at hl 4 rfl) ?_
      refine lv_iadd hx hb dX10_layRows_46 ?_
      refine lv_icmp_ne (tgt := 54) hx hb dX10_layRows_47 (by decide) (fun c5 => ?_) (fun c6 => ?_)
      · have hw := hw.1 c5
        refine lv_lconst (v := 0) hx hb dX10_layRows_54 (by decide) ?_
        refine va_last hx hb hK hP hD hS 3 1 rfl rfl hw.1 dX10_layRows_55 (fun H locs hP hD hS => ?_)
        have hw := hw.2
        have hP : va_P (dC, dI) vwCl (wld_X10_layRows cI cJ cZ h_p0 ad_p0 p0_places p0_steps p0_pastFirst p0_past p0_goings p0_rowSize p0_ways p0_hasField p0_fieldSize p0_faultNow p0_hasTree p0_treeSize p0_weightCount p0_roundCount p0_setCount p0_isOut p0_puts (vp_updL p0_rows (((32 : Int32) * v4) + v5).toNatClampNeg (0 : Int64)) p0_takes) H := hP
        have hD : va_D A (wld_X10_layRows cI cJ cZ h_p0 ad_p0 p0_places p0_steps p0_pastFirst p0_past p0_goings p0_rowSize p0_ways p0_hasField p0_fieldSize p0_faultNow p0_hasTree p0_treeSize p0_weightCount p0_roundCount p0_setCount p0_isOut p0_puts (vp_updL p0_rows (((32 : Int32) * v4) + v5).toNatClampNeg (0 : Int64)) p0_takes) := hD
        obtain ⟨x7, ex7⟩ : ∃ y : Int32, y = v5 + (1 : Int32) := ⟨_, rfl⟩
        have hw := hw x7 ex7
        refine lv_iinc (v := x7) (lv' := [(5, .int x7), (0, .ref h_p0), (1, .int v1), (2, .int v2), (3, .int v3), (4, .int v4)]) hx hb dX10_layRows_56 hl (k := 5) rfl (by rw [ex7]; rfl) (by decide) rfl (fun ls hl => ?_)
        refine lv_goto (tgt := 21) hx hb dX10_layRows_59 (by decide) ?_
        exact ih _ _ hw _ _ _ hP hD hS (lv_sub hl [1, 2, 3, 4, 5, 0] rfl)
      · have hw := hw.2 c6
        refine lv_lconst (v := 1) hx hb dX10_layRows_50 (by decide) ?_
        refine lv_goto (tgt := 55) hx hb dX10_layRows_51 (by decide) ?_
        refine va_last hx hb hK hP hD hS 3 1 rfl rfl hw.1 dX10_layRows_55 (fun H locs hP hD hS => ?_)
        have hw := hw.2
        have hP : va_P (dC, dI) vwCl (wld_X10_layRows cI cJ cZ h_p0 ad_p0 p0_places p0_steps p0_pastFirst p0_past p0_goings p0_rowSize p0_ways p0_hasField p0_fieldSize p0_faultNow p0_hasTree p0_treeSize p0_weightCount p0_roundCount p0_setCount p0_isOut p0_puts (vp_updL p0_rows (((32 : Int32) * v4) + v5).toNatClampNeg (1 : Int64)) p0_takes) H := hP
        have hD : va_D A (wld_X10_layRows cI cJ cZ h_p0 ad_p0 p0_places p0_steps p0_pastFirst p0_past p0_goings p0_rowSize p0_ways p0_hasField p0_fieldSize p0_faultNow p0_hasTree p0_treeSize p0_weightCount p0_roundCount p0_setCount p0_isOut p0_puts (vp_updL p0_rows (((32 : Int32) * v4) + v5).toNatClampNeg (1 : Int64)) p0_takes) := hD
        obtain ⟨x8, ex8⟩ : ∃ y : Int32, y = v5 + (1 : Int32) := ⟨_, rfl⟩
        have hw := hw x8 ex8
        refine lv_iinc (v := x8) (lv' := [(5, .int x8), (0, .ref h_p0), (1, .int v1), (2, .int v2), (3, .int v3), (4, .int v4)]) hx hb dX10_layRows_56 hl (k := 5) rfl (by rw [ex8]; rfl) (by decide) rfl (fun ls hl => ?_)
        refine lv_goto (tgt := 21) hx hb dX10_layRows_59 (by decide) ?_
        exact ih _ _ hw _ _ _ hP hD hS (lv_sub hl [1, 2, 3, 4, 5, 0] rfl)
set_option maxHeartbeats 4000000 in
set_option maxRecDepth 100000 in
theorem c_X10_layRows_L65 {p : Program} {l : Launch} {e : Env} {s : State} {m : MethodId} {args : Array Value} {below : List Frame} {meth : Method} {c : Code} {dC : Nat → ClassId} {dI : Nat → Nat → Nat} {A : Nat → Prop} {cI cJ cZ : ClassId} {h_p0 : Nat} {ad_p0 : Nat → Nat} {p0_places : Int32} {p0_steps : Int32} {p0_pastFirst : Int32} {p0_past : Int32} {p0_goings : Int32} {p0_rowSize : Int32} {p0_ways : Int32} {p0_hasField : Int32} {p0_fieldSize : Int32} {p0_faultNow : Int32} {p0_hasTree : Int32} {p0_treeSize : Int32} {p0_weightCount : Int32} {p0_roundCount : Int32} {p0_setCount : Int32} {p0_isOut : Nat → Int32} {p0_puts : Nat → Int32} {p0_takes : Nat → Int32} {v1 : Int32} {v2 : Int32} {v3 : Int32} {v4 : Int32} {z_p0_rows : Nat → Int64} {post : (Nat → Int32) → (Nat → Int64) → Prop} {K : (Int32) → (Nat → Int64) → Prop} (E0 : xEnv p s m args meth c cX10_layRows none 6 RX10 wsX10_layRows (dC, dI) cI cJ cZ A) (hk : ∀ (v5 : Int32) (p0_rows : Nat → Int64) (H : Heap) (locs : List Loc) (ls : Array Slot), K v5 p0_rows → va_P (dC, dI) vwCl (wld_X10_layRows cI cJ cZ h_p0 ad_p0 p0_places p0_steps p0_pastFirst p0_past p0_goings p0_rowSize p0_ways p0_hasField p0_fieldSize p0_faultNow p0_hasTree p0_treeSize p0_weightCount p0_roundCount p0_setCount p0_isOut p0_puts p0_rows p0_takes) H → va_D A (wld_X10_layRows cI cJ cZ h_p0 ad_p0 p0_places p0_steps p0_pastFirst p0_past p0_goings p0_rowSize p0_ways p0_hasField p0_fieldSize p0_faultNow p0_hasTree p0_treeSize p0_weightCount p0_roundCount p0_setCount p0_isOut p0_puts p0_rows p0_takes) → va_S A s.heap H locs → lv_has ls 6 [(0, .ref h_p0), (1, .int v1), (2, .int v2), (3, .int v3), (4, .int v4)] → W p l e ({ frames := 1, cells := 0, slots := 0, locals := 22 }) s m args below meth c H locs 0 0 (MQ below (q_X10_layRows dC dI cI cJ cZ h_p0 ad_p0 p0_places p0_steps p0_pastFirst p0_past p0_goings p0_rowSize p0_ways p0_hasField p0_fieldSize p0_faultNow p0_hasTree p0_treeSize p0_weightCount p0_roundCount p0_setCount p0_isOut p0_puts z_p0_rows p0_takes post A) args s 0 0 A) (F0 m 121 ls [])) : ∀ (n : Nat) (v5 : Int32) (p0_rows : Nat → Int64), w_X10_layRows_L65 v1 v2 v3 v4 p0_isOut p0_puts p0_takes post K n v5 p0_rows → ∀ (H : Heap) (locs : List Loc) (ls : Array Slot), va_P (dC, dI) vwCl (wld_X10_layRows cI cJ cZ h_p0 ad_p0 p0_places p0_steps p0_pastFirst p0_past p0_goings p0_rowSize p0_ways p0_hasField p0_fieldSize p0_faultNow p0_hasTree p0_treeSize p0_weightCount p0_roundCount p0_setCount p0_isOut p0_puts p0_rows p0_takes) H → va_D A (wld_X10_layRows cI cJ cZ h_p0 ad_p0 p0_places p0_steps p0_pastFirst p0_past p0_goings p0_rowSize p0_ways p0_hasField p0_fieldSize p0_faultNow p0_hasTree p0_treeSize p0_weightCount p0_roundCount p0_setCount p0_isOut p0_puts p0_rows p0_takes) → va_S A s.heap H locs → lv_has ls 6 [(0, .ref h_p0), (1, .int v1), (2, .int v2), (3, .int v3), (4, .int v4), (5, .int v5)] → W p l e ({ frames := 1, cells := 0, slots := 0, locals := 22 }) s m args below meth c H locs 0 0 (MQ below (q_X10_layRows dC dI cI cJ cZ h_p0 ad_p0 p0_places p0_steps p0_pastFirst p0_past p0_goings p0_rowSize p0_ways p0_hasField p0_fieldSize p0_faultNow p0_hasTree p0_treeSize p0_weightCount p0_roundCount p0_setCount p0_isOut p0_puts z_p0_rows p0_takes post A) args s 0 0 A) (F0 m 65 ls []) := by
  obtain ⟨hx, hb, hr, hml, hown, hts, hlocks, hK, hA, n1, n2⟩ := id E0
  have iX10 : ∀ w ∈ u_ws RX10 TX10 50, w ∈ wsX10_layRows := fun w h => List.mem_cons_of_mem _ (List.mem_append_right _ h)
  intro n
  induction n with
  | zero => intro v5 p0_rows hw; exact hw.elim
  | succ n ih =>
    intro v5 p0_rows hw H locs ls hP hD hS hl
    have hw : w_X10_layRows_L65b v1 v2 v3 v4 p0_isOut p0_puts p0_takes post K (w_X10_layRows_L65 v1 v2 v3 v4 p0_isOut p0_puts p0_takes post K n) v5 p0_rows := hw
    unfold w_X10_layRows_L65b at hw
    refine lv_iload hx hb dX10_layRows_65 (lv_at hl 5 rfl) ?_
    refine lv_iload_n hx hb dX10_layRows_67 rfl (lv_at hl 2 rfl) ?_
    refine lv_icmp_ge (tgt := 121) hx hb dX10_layRows_68 (by decide) (fun c12 => ?_) (fun c13 => ?_)
    · have hw := hw.1 c12
      exact hk _ _ _ _ _ hw hP hD hS (lv_sub hl [0, 1, 2, 3, 4] rfl)
    · have hw := hw.2 c13
      refine lv_iload hx hb dX10_layRows_71 (lv_at hl 4 rfl) ?_
      refine lv_iload_n hx hb dX10_layRows_73 rfl (lv_at hl 1 rfl) ?_
      refine lv_icmp_ge (tgt := 121) hx hb dX10_layRows_74 (by decide) (fun c14 => ?_) (fun c15 => ?_)
      · have hw := hw.1 c14
        exact hk _ _ _ _ _ hw hP hD hS (lv_sub hl [0, 1, 2, 3, 4] rfl)
      · have hw := hw.2 c15
        refine lv_aload_n hx hb dX10_layRows_77 rfl (lv_at hl 0 rfl) ?_
        refine va_get (D := (dC, dI)) (ci := 10) (v := .ref (ad_p0 40)) (C := RX10) (T := TX10) (N := 50) hx hb hts iX10 hown hK hP 0 rfl rfl 40 (by decide) (hts (.fieldLink RX10 102 "NetHouseModel" "rows" "[J") (by decide +kernel)) (fun _ h9 => h9) rfl dX10_layRows_78 ?_
        refine lv_bipush (v := 32) hx hb dX10_layRows_81 (by decide) ?_
        refine lv_iload hx hb dX10_layRows_83 (lv_at hl 4 rfl) ?_
        refine lv_imul hx hb dX10_layRows_85 ?_
        refine lv_iload hx hb dX10_layRows_86 (lv_at hl 5 rfl) ?_
        refine lv_iadd hx hb dX10_layRows_88 ?_
        refine lv_iload_n hx hb dX10_layRows_89 rfl (lv_at hl 3 rfl) ?_
        refine lv_if_eq (tgt := 105) hx hb dX10_layRows_90 (by decide) (fun c16 => ?_) (fun c17 => ?_)
        · have hw := hw.1 c16
          refine lv_aload_n hx hb dX10_layRows_105 rfl (lv_at hl 0 rfl) ?_
          refine lv_iload hx hb dX10_layRows_106 (lv_at hl 4 rfl) ?_
          refine lv_iload hx hb dX10_layRows_108 (lv_at hl 5 rfl) ?_
          obtain ⟨hPc, hDc⟩ := x_sub (wc := (wld_X10_change cI cJ cZ h_p0 ad_p0 p0_places p0_steps p0_pastFirst p0_past p0_goings p0_rowSize p0_ways p0_hasField p0_fieldSize p0_faultNow p0_hasTree p0_treeSize p0_weightCount p0_roundCount p0_setCount p0_puts p0_takes)) hP hD [0, 2, 4] (n := 5) rfl rfl (by decide +kernel)
          refine x_calli (ws' := fun (u : Unit) => (wld_X10_layRows cI cJ cZ h_p0 ad_p0 p0_places p0_steps p0_pastFirst p0_past p0_goings p0_rowSize p0_ways p0_hasField p0_fieldSize p0_faultNow p0_hasTree p0_treeSize p0_weightCount p0_roundCount p0_setCount p0_isOut p0_puts p0_rows p0_takes)) hP hD hS hA [0, 2, 4] [1, 3] [2, 0, 3, 1, 4] (n := 5) (k := 3) rfl (fun _ => rfl) rfl (by decide +kernel) (fun _ => rfl) (va_runV (As := [.int v4, .int v5]) (rest := [.int (((32 : Int32) * v4) + v5), .ref (ad_p0 40)]) ⟨hx, hb, hml, hown, hts⟩ (c_X10_change (l := l) (dC := dC) (dI := dI) (cI := cI) (cJ := cJ) (cZ := cZ) (sz := H.size) (h_p0 := h_p0) (ad_p0 := ad_p0) (p0_places := p0_places) (p0_steps := p0_steps) (p0_pastFirst := p0_pastFirst) (p0_past := p0_past) (p0_goings := p0_goings) (p0_rowSize := p0_rowSize) (p0_ways := p0_ways) (p0_hasField := p0_hasField) (p0_fieldSize := p0_fieldSize) (p0_faultNow := p0_faultNow) (p0_hasTree := p0_hasTree) (p0_treeSize := p0_treeSize) (p0_weightCount := p0_weightCount) (p0_roundCount := p0_roundCount) (p0_setCount := p0_setCount) (p0_puts := p0_puts) (p0_takes := p0_takes) hw) (cwV 2 hts gX10_layRows_X10_change rfl rfl rfl (by decide +kernel) ⟨Nat.le_of_ble_eq_true rfl, Nat.le_of_ble_eq_true rfl⟩) ⟨xPre_blind, va_recv hK hP (ci := 10) (q0 := 0) rfl rfl, xPre_at hK hPc hDc n1 n2⟩ rfl rfl hl.1 rfl (lv_room (Nat.le_of_ble_eq_true rfl)) dX10_layRows_110 ⟨Nat.zero_le _, Nat.zero_le _⟩) (fun r18 u H locs hw hP hD hS => ?_)
          try dsimp only at hw
          have hP : va_P (dC, dI) vwCl (wld_X10_layRows cI cJ cZ h_p0 ad_p0 p0_places p0_steps p0_pastFirst p0_past p0_goings p0_rowSize p0_ways p0_hasField p0_fieldSize p0_faultNow p0_hasTree p0_treeSize p0_weightCount p0_roundCount p0_setCount p0_isOut p0_puts p0_rows p0_takes) H := hP
          have hD : va_D A (wld_X10_layRows cI cJ cZ h_p0 ad_p0 p0_places p0_steps p0_pastFirst p0_past p0_goings p0_rowSize p0_ways p0_hasField p0_fieldSize p0_faultNow p0_hasTree p0_treeSize p0_weightCount p0_roundCount p0_setCount p0_isOut p0_puts p0_rows p0_takes) := hD
          refine lv_i2l hx hb dX10_layRows_113 rfl ?_
          refine va_last hx hb hK hP hD hS 3 1 rfl rfl hw.1 dX10_layRows_114 (fun H locs hP hD hS => ?_)
          have hw := hw.2
          have hP : va_P (dC, dI) vwCl (wld_X10_layRows cI cJ cZ h_p0 ad_p0 p0_places p0_steps p0_pastFirst p0_past p0_goings p0_rowSize p0_ways p0_hasField p0_fieldSize p0_faultNow p0_hasTree p0_treeSize p0_weightCount p0_roundCount p0_setCount p0_isOut p0_puts (vp_updL p0_rows (((32 : Int32) * v4) + v5).toNatClampNeg r18.toInt64) p0_takes) H := hP
          have hD : va_D A (wld_X10_layRows cI cJ cZ h_p0 ad_p0 p0_places p0_steps p0_pastFirst p0_past p0_goings p0_rowSize p0_ways p0_hasField p0_fieldSize p0_faultNow p0_hasTree p0_treeSize p0_weightCount p0_roundCount p0_setCount p0_isOut p0_puts (vp_updL p0_rows (((32 : Int32) * v4) + v5).toNatClampNeg r18.toInt64) p0_takes) := hD
          obtain ⟨x19, ex19⟩ : ∃ y : Int32, y = v5 + (1 : Int32) := ⟨_, rfl⟩
          have hw := hw x19 ex19
          refine lv_iinc (v := x19) (lv' := [(5, .int x19), (0, .ref h_p0), (1, .int v1), (2, .int v2), (3, .int v3), (4, .int v4)]) hx hb dX10_layRows_115 hl (k := 5) rfl (by rw [ex19]; rfl) (by decide) rfl (fun ls hl => ?_)
          refine lv_goto (tgt := 65) hx hb dX10_layRows_118 (by decide) ?_
          exact ih _ _ hw _ _ _ hP hD hS (lv_sub hl [1, 2, 3, 4, 5, 0] rfl)
        · have hw := hw.2 c17
          refine lv_aload_n hx hb dX10_layRows_93 rfl (lv_at hl 0 rfl) ?_
          refine lv_iload hx hb dX10_layRows_94 (lv_at hl 5 rfl) ?_
          refine lv_iload hx hb dX10_layRows_96 (lv_at hl 4 rfl) ?_
          obtain ⟨hPc, hDc⟩ := x_sub (wc := (wld_X10_change cI cJ cZ h_p0 ad_p0 p0_places p0_steps p0_pastFirst p0_past p0_goings p0_rowSize p0_ways p0_hasField p0_fieldSize p0_faultNow p0_hasTree p0_treeSize p0_weightCount p0_roundCount p0_setCount p0_puts p0_takes)) hP hD [0, 2, 4] (n := 5) rfl rfl (by decide +kernel)
          refine x_calli (ws' := fun (u : Unit) => (wld_X10_layRows cI cJ cZ h_p0 ad_p0 p0_places p0_steps p0_pastFirst p0_past p0_goings p0_rowSize p0_ways p0_hasField p0_fieldSize p0_faultNow p0_hasTree p0_treeSize p0_weightCount p0_roundCount p0_setCount p0_isOut p0_puts p0_rows p0_takes)) hP hD hS hA [0, 2, 4] [1, 3] [2, 0, 3, 1, 4] (n := 5) (k := 3) rfl (fun _ => rfl) rfl (by decide +kernel) (fun _ => rfl) (va_runV (As := [.int v5, .int v4]) (rest := [.int (((32 : Int32) * v4) + v5), .ref (ad_p0 40)]) ⟨hx, hb, hml, hown, hts⟩ (c_X10_change (l := l) (dC := dC) (dI := dI) (cI := cI) (cJ := cJ) (cZ := cZ) (sz := H.size) (h_p0 := h_p0) (ad_p0 := ad_p0) (p0_places := p0_places) (p0_steps := p0_steps) (p0_pastFirst := p0_pastFirst) (p0_past := p0_past) (p0_goings := p0_goings) (p0_rowSize := p0_rowSize) (p0_ways := p0_ways) (p0_hasField := p0_hasField) (p0_fieldSize := p0_fieldSize) (p0_faultNow := p0_faultNow) (p0_hasTree := p0_hasTree) (p0_treeSize := p0_treeSize) (p0_weightCount := p0_weightCount) (p0_roundCount := p0_roundCount) (p0_setCount := p0_setCount) (p0_puts := p0_puts) (p0_takes := p0_takes) hw) (cwV 2 hts gX10_layRows_X10_change rfl rfl rfl (by decide +kernel) ⟨Nat.le_of_ble_eq_true rfl, Nat.le_of_ble_eq_true rfl⟩) ⟨xPre_blind, va_recv hK hP (ci := 10) (q0 := 0) rfl rfl, xPre_at hK hPc hDc n1 n2⟩ rfl rfl hl.1 rfl (lv_room (Nat.le_of_ble_eq_true rfl)) dX10_layRows_98 ⟨Nat.zero_le _, Nat.zero_le _⟩) (fun r20 u H locs hw hP hD hS => ?_)
          try dsimp only at hw
          have hP : va_P (dC, dI) vwCl (wld_X10_layRows cI cJ cZ h_p0 ad_p0 p0_places p0_steps p0_pastFirst p0_past p0_goings p0_rowSize p0_ways p0_hasField p0_fieldSize p0_faultNow p0_hasTree p0_treeSize p0_weightCount p0_roundCount p0_setCount p0_isOut p0_puts p0_rows p0_takes) H := hP
          have hD : va_D A (wld_X10_layRows cI cJ cZ h_p0 ad_p0 p0_places p0_steps p0_pastFirst p0_past p0_goings p0_rowSize p0_ways p0_hasField p0_fieldSize p0_faultNow p0_hasTree p0_treeSize p0_weightCount p0_roundCount p0_setCount p0_isOut p0_puts p0_rows p0_takes) := hD
          refine lv_i2l hx hb dX10_layRows_101 rfl ?_
          refine lv_goto (tgt := 114) hx hb dX10_layRows_102 (by decide) ?_
          refine va_last hx hb hK hP hD hS 3 1 rfl rfl hw.1 dX10_layRows_114 (fun H locs hP hD hS => ?_)
          have hw := hw.2
          have hP : va_P (dC, dI) vwCl (wld_X10_layRows cI cJ cZ h_p0 ad_p0 p0_places p0_steps p0_pastFirst p0_past p0_goings p0_rowSize p0_ways p0_hasField p0_fieldSize p0_faultNow p0_hasTree p0_treeSize p0_weightCount p0_roundCount p0_setCount p0_isOut p0_puts (vp_updL p0_rows (((32 : Int32) * v4) + v5).toNatClampNeg r20.toInt64) p0_takes) H := hP
          have hD : va_D A (wld_X10_layRows cI cJ cZ h_p0 ad_p0 p0_places p0_steps p0_pastFirst p0_past p0_goings p0_rowSize p0_ways p0_hasField p0_fieldSize p0_faultNow p0_hasTree p0_treeSize p0_weightCount p0_roundCount p0_setCount p0_isOut p0_puts (vp_updL p0_rows (((32 : Int32) * v4) + v5).toNatClampNeg r20.toInt64) p0_takes) := hD
          obtain ⟨x21, ex21⟩ : ∃ y : Int32, y = v5 + (1 : Int32) := ⟨_, rfl⟩
          have hw := hw x21 ex21
          refine lv_iinc (v := x21) (lv' := [(5, .int x21), (0, .ref h_p0), (1, .int v1), (2, .int v2), (3, .int v3), (4, .int v4)]) hx hb dX10_layRows_115 hl (k := 5) rfl (by rw [ex21]; rfl) (by decide) rfl (fun ls hl => ?_)
          refine lv_goto (tgt := 65) hx hb dX10_layRows_118 (by decide) ?_
          exact ih _ _ hw _ _ _ hP hD hS (lv_sub hl [1, 2, 3, 4, 5, 0] rfl)
set_option maxHeartbeats 4000000 in
set_option maxRecDepth 100000 in
theorem c_X10_layRows_L3 {p : Program} {l : Launch} {e : Env} {s : State} {m : MethodId} {args : Array Value} {below : List Frame} {meth : Method} {c : Code} {dC : Nat → ClassId} {dI : Nat → Nat → Nat} {A : Nat → Prop} {cI cJ cZ : ClassId} {h_p0 : Nat} {ad_p0 : Nat → Nat} {p0_places : Int32} {p0_steps : Int32} {p0_pastFirst : Int32} {p0_past : Int32} {p0_goings : Int32} {p0_rowSize : Int32} {p0_ways : Int32} {p0_hasField : Int32} {p0_fieldSize : Int32} {p0_faultNow : Int32} {p0_hasTree : Int32} {p0_treeSize : Int32} {p0_weightCount : Int32} {p0_roundCount : Int32} {p0_setCount : Int32} {p0_puts : Nat → Int32} {p0_takes : Nat → Int32} {v1 : Int32} {v2 : Int32} {v3 : Int32} {z_p0_isOut : Nat → Int32} {z_p0_rows : Nat → Int64} {post : (Nat → Int32) → (Nat → Int64) → Prop} {K : (Int32) → (Nat → Int32) → (Nat → Int64) → Prop} (E0 : xEnv p s m args meth c cX10_layRows none 6 RX10 wsX10_layRows (dC, dI) cI cJ cZ A) (hk : ∀ (v4 : Int32) (p0_isOut : Nat → Int32) (p0_rows : Nat → Int64) (H : Heap) (locs : List Loc) (ls : Array Slot), K v4 p0_isOut p0_rows → va_P (dC, dI) vwCl (wld_X10_layRows cI cJ cZ h_p0 ad_p0 p0_places p0_steps p0_pastFirst p0_past p0_goings p0_rowSize p0_ways p0_hasField p0_fieldSize p0_faultNow p0_hasTree p0_treeSize p0_weightCount p0_roundCount p0_setCount p0_isOut p0_puts p0_rows p0_takes) H → va_D A (wld_X10_layRows cI cJ cZ h_p0 ad_p0 p0_places p0_steps p0_pastFirst p0_past p0_goings p0_rowSize p0_ways p0_hasField p0_fieldSize p0_faultNow p0_hasTree p0_treeSize p0_weightCount p0_roundCount p0_setCount p0_isOut p0_puts p0_rows p0_takes) → va_S A s.heap H locs → lv_has ls 6 [] → W p l e ({ frames := 1, cells := 0, slots := 0, locals := 22 }) s m args below meth c H locs 0 0 (MQ below (q_X10_layRows dC dI cI cJ cZ h_p0 ad_p0 p0_places p0_steps p0_pastFirst p0_past p0_goings p0_rowSize p0_ways p0_hasField p0_fieldSize p0_faultNow p0_hasTree p0_treeSize p0_weightCount p0_roundCount p0_setCount z_p0_isOut p0_puts z_p0_rows p0_takes post A) args s 0 0 A) (F0 m 127 ls [])) : ∀ (n : Nat) (v4 : Int32) (p0_isOut : Nat → Int32) (p0_rows : Nat → Int64), w_X10_layRows_L3 v1 v2 v3 p0_puts p0_takes post K n v4 p0_isOut p0_rows → ∀ (H : Heap) (locs : List Loc) (ls : Array Slot), va_P (dC, dI) vwCl (wld_X10_layRows cI cJ cZ h_p0 ad_p0 p0_places p0_steps p0_pastFirst p0_past p0_goings p0_rowSize p0_ways p0_hasField p0_fieldSize p0_faultNow p0_hasTree p0_treeSize p0_weightCount p0_roundCount p0_setCount p0_isOut p0_puts p0_rows p0_takes) H → va_D A (wld_X10_layRows cI cJ cZ h_p0 ad_p0 p0_places p0_steps p0_pastFirst p0_past p0_goings p0_rowSize p0_ways p0_hasField p0_fieldSize p0_faultNow p0_hasTree p0_treeSize p0_weightCount p0_roundCount p0_setCount p0_isOut p0_puts p0_rows p0_takes) → va_S A s.heap H locs → lv_has ls 6 [(0, .ref h_p0), (1, .int v1), (2, .int v2), (3, .int v3), (4, .int v4)] → W p l e ({ frames := 1, cells := 0, slots := 0, locals := 22 }) s m args below meth c H locs 0 0 (MQ below (q_X10_layRows dC dI cI cJ cZ h_p0 ad_p0 p0_places p0_steps p0_pastFirst p0_past p0_goings p0_rowSize p0_ways p0_hasField p0_fieldSize p0_faultNow p0_hasTree p0_treeSize p0_weightCount p0_roundCount p0_setCount z_p0_isOut p0_puts z_p0_rows p0_takes post A) args s 0 0 A) (F0 m 3 ls []) := by
  obtain ⟨hx, hb, hr, hml, hown, hts, hlocks, hK, hA, n1, n2⟩ := id E0
  have iX10 : ∀ w ∈ u_ws RX10 TX10 50, w ∈ wsX10_layRows := fun w h => List.mem_cons_of_mem _ (List.mem_append_right _ h)
  intro n
  induction n with
  | zero => intro v4 p0_isOut p0_rows hw; exact hw.elim
  | succ n ih =>
    intro v4 p0_isOut p0_rows hw H locs ls hP hD hS hl
    have hw : w_X10_layRows_L3b v1 v2 v3 p0_puts p0_takes post K (w_X10_layRows_L3 v1 v2 v3 p0_puts p0_takes post K n) v4 p0_isOut p0_rows := hw
    unfold w_X10_layRows_L3b at hw
    refine lv_iload hx hb dX10_layRows_3 (lv_at hl 4 rfl) ?_
    refine lv_bipush (v := 16) hx hb dX10_layRows_5 (by decide) ?_
    refine lv_icmp_ge (tgt := 127) hx hb dX10_layRows_7 (by decide) (fun c1 => ?_) (fun c2 => ?_)
    · have hw := hw.1 c1
      exact hk _ _ _ _ _ _ hw hP hD hS (lv_sub hl [] rfl)
    · have hw := hw.2 c2
      refine lv_aload_n hx hb dX10_layRows_10 rfl (lv_at hl 0 rfl) ?_
      refine va_get (D := (dC, dI)) (ci := 10) (v := .ref (ad_p0 41)) (C := RX10) (T := TX10) (N := 50) hx hb hts iX10 hown hK hP 0 rfl rfl 41 (by decide) (hts (.fieldLink RX10 106 "NetHouseModel" "isOut" "[Z") (by decide +kernel)) (fun _ h9 => h9) rfl dX10_layRows_11 ?_
      refine lv_iload hx hb dX10_layRows_14 (lv_at hl 4 rfl) ?_
      refine lv_iconst (v := 0) hx hb dX10_layRows_16 (by decide) ?_
      refine va_zast hx hb hK hP hD hS 1 2 rfl rfl hw.1 dX10_layRows_17 (fun H locs hP hD hS => ?_)
      have hw := hw.2
      have hP : va_P (dC, dI) vwCl (wld_X10_layRows cI cJ cZ h_p0 ad_p0 p0_places p0_steps p0_pastFirst p0_past p0_goings p0_rowSize p0_ways p0_hasField p0_fieldSize p0_faultNow p0_hasTree p0_treeSize p0_weightCount p0_roundCount p0_setCount (upd p0_isOut v4.toNatClampNeg (vp_nar .boolean (0 : Int32))) p0_puts p0_rows p0_takes) H := hP
      have hD : va_D A (wld_X10_layRows cI cJ cZ h_p0 ad_p0 p0_places p0_steps p0_pastFirst p0_past p0_goings p0_rowSize p0_ways p0_hasField p0_fieldSize p0_faultNow p0_hasTree p0_treeSize p0_weightCount p0_roundCount p0_setCount (upd p0_isOut v4.toNatClampNeg (vp_nar .boolean (0 : Int32))) p0_puts p0_rows p0_takes) := hD
      refine lv_iconst (v := 0) hx hb dX10_layRows_18 (by decide) ?_
      refine lv_istore (lv' := [(5, .int (0 : Int32)), (0, .ref h_p0), (1, .int v1), (2, .int v2), (3, .int v3), (4, .int v4)]) hx hb dX10_layRows_19 hl (by decide) rfl (fun ls hl => ?_)
      obtain ⟨n9, hw⟩ := hw
      refine c_X10_layRows_L21 (l := l) (z_p0_rows := p0_rows) E0 ?_ n9 _ _ hw _ _ _ hP hD hS (lv_sub hl [1, 2, 3, 4, 5, 0] rfl)
      · intro v10 s11 H locs ls hw hP hD hS hl
        have hP : va_P (dC, dI) vwCl (wld_X10_layRows cI cJ cZ h_p0 ad_p0 p0_places p0_steps p0_pastFirst p0_past p0_goings p0_rowSize p0_ways p0_hasField p0_fieldSize p0_faultNow p0_hasTree p0_treeSize p0_weightCount p0_roundCount p0_setCount (upd p0_isOut v4.toNatClampNeg (vp_nar .boolean (0 : Int32))) p0_puts s11 p0_takes) H := hP
        have hD : va_D A (wld_X10_layRows cI cJ cZ h_p0 ad_p0 p0_places p0_steps p0_pastFirst p0_past p0_goings p0_rowSize p0_ways p0_hasField p0_fieldSize p0_faultNow p0_hasTree p0_treeSize p0_weightCount p0_roundCount p0_setCount (upd p0_isOut v4.toNatClampNeg (vp_nar .boolean (0 : Int32))) p0_puts s11 p0_takes) := hD
        refine lv_iconst (v := 0) hx hb dX10_layRows_62 (by decide) ?_
        refine lv_istore (lv' := [(5, .int (0 : Int32)), (0, .ref h_p0), (1, .int v1), (2, .int v2), (3, .int v3), (4, .int v4)]) hx hb dX10_layRows_63 hl (by decide) rfl (fun ls hl => ?_)
        obtain ⟨n22, hw⟩ := hw
        refine c_X10_layRows_L65 (l := l) (z_p0_rows := s11) E0 ?_ n22 _ _ hw _ _ _ hP hD hS (lv_sub hl [1, 2, 3, 4, 5, 0] rfl)
        · intro v23 s24 H locs ls hw hP hD hS hl
          have hP : va_P (dC, dI) vwCl (wld_X10_layRows cI cJ cZ h_p0 ad_p0 p0_places p0_steps p0_pastFirst p0_past p0_goings p0_rowSize p0_ways p0_hasField p0_fieldSize p0_faultNow p0_hasTree p0_treeSize p0_weightCount p0_roundCount p0_setCount (upd p0_isOut v4.toNatClampNeg (vp_nar .boolean (0 : Int32))) p0_puts s24 p0_takes) H := hP
          have hD : va_D A (wld_X10_layRows cI cJ cZ h_p0 ad_p0 p0_places p0_steps p0_pastFirst p0_past p0_goings p0_rowSize p0_ways p0_hasField p0_fieldSize p0_faultNow p0_hasTree p0_treeSize p0_weightCount p0_roundCount p0_setCount (upd p0_isOut v4.toNatClampNeg (vp_nar .boolean (0 : Int32))) p0_puts s24 p0_takes) := hD
          obtain ⟨x25, ex25⟩ : ∃ y : Int32, y = v4 + (1 : Int32) := ⟨_, rfl⟩
          have hw := hw x25 ex25
          refine lv_iinc (v := x25) (lv' := [(4, .int x25), (0, .ref h_p0), (1, .int v1), (2, .int v2), (3, .int v3)]) hx hb dX10_layRows_121 hl (k := 4) rfl (by rw [ex25]; rfl) (by decide) rfl (fun ls hl => ?_)
          refine lv_goto (tgt := 3) hx hb dX10_layRows_124 (by decide) ?_
          exact ih _ _ _ hw _ _ _ hP hD hS (lv_sub hl [1, 2, 3, 4, 0] rfl)
set_option maxHeartbeats 4000000 in
set_option maxRecDepth 100000 in
theorem c_X10_layRows {l : Launch} {dC : Nat → ClassId} {dI : Nat → Nat → Nat} {sz : Nat} {cI cJ cZ : ClassId} {h_p0 : Nat} {ad_p0 : Nat → Nat} {p0_places : Int32} {p0_steps : Int32} {p0_pastFirst : Int32} {p0_past : Int32} {p0_goings : Int32} {p0_rowSize : Int32} {p0_ways : Int32} {p0_hasField : Int32} {p0_fieldSize : Int32} {p0_faultNow : Int32} {p0_hasTree : Int32} {p0_treeSize : Int32} {p0_weightCount : Int32} {p0_roundCount : Int32} {p0_setCount : Int32} {p0_isOut : Nat → Int32} {p0_puts : Nat → Int32} {p0_rows : Nat → Int64} {p0_takes : Nat → Int32} {a1 : Int32} {a2 : Int32} {a3 : Int32} {post : (Nat → Int32) → (Nat → Int64) → Prop} (hw : w_X10_layRows p0_isOut p0_puts p0_rows p0_takes a1 a2 a3 post) : Met l yX10_layRows wsX10_layRows ({ frames := 1, cells := 0, slots := 0, locals := 22 }) (va_Pc [.ref h_p0, .int a1, .int a2, .int a3] (xPre (dC, dI) cI cJ cZ (wld_X10_layRows cI cJ cZ h_p0 ad_p0 p0_places p0_steps p0_pastFirst p0_past p0_goings p0_rowSize p0_ways p0_hasField p0_fieldSize p0_faultNow p0_hasTree p0_treeSize p0_weightCount p0_roundCount p0_setCount p0_isOut p0_puts p0_rows p0_takes) sz)) (q_X10_layRows dC dI cI cJ cZ h_p0 ad_p0 p0_places p0_steps p0_pastFirst p0_past p0_goings p0_rowSize p0_ways p0_hasField p0_fieldSize p0_faultNow p0_hasTree p0_treeSize p0_weightCount p0_roundCount p0_setCount p0_isOut p0_puts p0_rows p0_takes post (va_A (wld_X10_layRows cI cJ cZ h_p0 ad_p0 p0_places p0_steps p0_pastFirst p0_past p0_goings p0_rowSize p0_ways p0_hasField p0_fieldSize p0_faultNow p0_hasTree p0_treeSize p0_weightCount p0_roundCount p0_setCount p0_isOut p0_puts p0_rows p0_takes) sz)) 0 0 (va_A (wld_X10_layRows cI cJ cZ h_p0 ad_p0 p0_places p0_steps p0_pastFirst p0_past p0_goings p0_rowSize p0_ways p0_hasField p0_fieldSize p0_faultNow p0_hasTree p0_treeSize p0_weightCount p0_roundCount p0_setCount p0_isOut p0_puts p0_rows p0_takes) sz) := by
  refine x_met (cc := cX10_layRows) (maxL := 6) (ret := none) (own := RX10) (Qc := fun A => (q_X10_layRows dC dI cI cJ cZ h_p0 ad_p0 p0_places p0_steps p0_pastFirst p0_past p0_goings p0_rowSize p0_ways p0_hasField p0_fieldSize p0_faultNow p0_hasTree p0_treeSize p0_weightCount p0_roundCount p0_setCount p0_isOut p0_puts p0_rows p0_takes post A)) (by decide) rfl rfl (Nat.le_of_ble_eq_true rfl) ?_
  intro p e s m args below meth c A ls E0 hP hD hS hl
  obtain ⟨hx, hb, hr, hml, hown, hts, hlocks, hK, hA, n1, n2⟩ := id E0
  have iX10 : ∀ w ∈ u_ws RX10 TX10 50, w ∈ wsX10_layRows := fun w h => List.mem_cons_of_mem _ (List.mem_append_right _ h)
  have hS0 := hS
  have hl : lv_has ls 6 [(0, .ref h_p0), (1, .int a1), (2, .int a2), (3, .int a3)] := hl
  unfold w_X10_layRows at hw
  obtain ⟨H, hH⟩ : ∃ H, H = s.heap := ⟨_, rfl⟩
  have hS : va_S A s.heap H [] := by rw [hH]; exact hS
  have hP : va_P (dC, dI) vwCl (wld_X10_layRows cI cJ cZ h_p0 ad_p0 p0_places p0_steps p0_pastFirst p0_past p0_goings p0_rowSize p0_ways p0_hasField p0_fieldSize p0_faultNow p0_hasTree p0_treeSize p0_weightCount p0_roundCount p0_setCount p0_isOut p0_puts p0_rows p0_takes) H := by rw [hH]; exact hP
  suffices hG : W p l e ({ frames := 1, cells := 0, slots := 0, locals := 22 }) s m args below meth c H [] 0 0 (MQ below (q_X10_layRows dC dI cI cJ cZ h_p0 ad_p0 p0_places p0_steps p0_pastFirst p0_past p0_goings p0_rowSize p0_ways p0_hasField p0_fieldSize p0_faultNow p0_hasTree p0_treeSize p0_weightCount p0_roundCount p0_setCount p0_isOut p0_puts p0_rows p0_takes post A) args s 0 0 A) (F0 m 0 ls []) by rw [hH] at hG; exact hG
  clear hH
  refine lv_iconst (v := 0) hx hb dX10_layRows_0 (by decide) ?_
  refine lv_istore (lv' := [(4, .int (0 : Int32)), (0, .ref h_p0), (1, .int a1), (2, .int a2), (3, .int a3)]) hx hb dX10_layRows_1 hl (by decide) rfl (fun ls hl => ?_)
  obtain ⟨n26, hw⟩ := hw
  refine c_X10_layRows_L3 (l := l) (z_p0_isOut := p0_isOut) (z_p0_rows := p0_rows) E0 ?_ n26 _ _ _ hw _ _ _ hP hD hS (lv_sub hl [1, 2, 3, 4, 0] rfl)
  · intro v27 s28 s29 H locs ls hw hP hD hS hl
    have hP : va_P (dC, dI) vwCl (wld_X10_layRows cI cJ cZ h_p0 ad_p0 p0_places p0_steps p0_pastFirst p0_past p0_goings p0_rowSize p0_ways p0_hasField p0_fieldSize p0_faultNow p0_hasTree p0_treeSize p0_weightCount p0_roundCount p0_setCount s28 p0_puts s29 p0_takes) H := hP
    have hD : va_D A (wld_X10_layRows cI cJ cZ h_p0 ad_p0 p0_places p0_steps p0_pastFirst p0_past p0_goings p0_rowSize p0_ways p0_hasField p0_fieldSize p0_faultNow p0_hasTree p0_treeSize p0_weightCount p0_roundCount p0_setCount s28 p0_puts s29 p0_takes) := hD
    exact x_vret (w1 := fun (u : (Nat → Int32) × (Nat → Int64)) => (wld_X10_layRows cI cJ cZ h_p0 ad_p0 p0_places p0_steps p0_pastFirst p0_past p0_goings p0_rowSize p0_ways p0_hasField p0_fieldSize p0_faultNow p0_hasTree p0_treeSize p0_weightCount p0_roundCount p0_setCount (u.1) p0_puts (u.2) p0_takes)) hx hb hr hlocks (s28, s29) hw hP hD hS dX10_layRows_127
abbrev wld_X10_weights (cI cJ cZ : ClassId) (h_p0 : Nat) (ad_p0 : Nat → Nat) (p0_places : Int32) (p0_steps : Int32) (p0_pastFirst : Int32) (p0_past : Int32) (p0_goings : Int32) (p0_rowSize : Int32) (p0_ways : Int32) (p0_hasField : Int32) (p0_fieldSize : Int32) (p0_faultNow : Int32) (p0_hasTree : Int32) (p0_treeSize : Int32) (p0_weightCount : Int32) (p0_roundCount : Int32) (p0_setCount : Int32) (p0_isOut : Nat → Int32) (p0_puts : Nat → Int32) (p0_rows : Nat → Int64) (p0_takes : Nat → Int32) (p0_weights : Nat → Int32) : va_W := [(h_p0, .inr (10, [.int p0_places, .int p0_steps, .ref (ad_p0 2), .ref (ad_p0 3), .ref (ad_p0 4), .ref (ad_p0 5), .ref (ad_p0 6), .ref (ad_p0 7), .ref (ad_p0 8), .ref (ad_p0 9), .ref (ad_p0 10), .ref (ad_p0 11), .ref (ad_p0 12), .ref (ad_p0 13), .ref (ad_p0 14), .int p0_pastFirst, .int p0_past, .int p0_goings, .int p0_rowSize, .ref (ad_p0 19), .ref (ad_p0 20), .int p0_ways, .ref (ad_p0 22), .ref (ad_p0 23), .int p0_hasField, .int p0_fieldSize, .ref (ad_p0 26), .ref (ad_p0 27), .ref (ad_p0 28), .ref (ad_p0 29), .ref (ad_p0 30), .ref (ad_p0 31), .ref (ad_p0 32), .int p0_faultNow, .int p0_hasTree, .int p0_treeSize, .ref (ad_p0 36), .ref (ad_p0 37), .ref (ad_p0 38), .ref (ad_p0 39), .ref (ad_p0 40), .ref (ad_p0 41), .ref (ad_p0 42), .int p0_weightCount, .ref (ad_p0 44), .int p0_roundCount, .ref (ad_p0 46), .int p0_setCount, .ref (ad_p0 48), .ref (ad_p0 49)])), ((ad_p0 41), .inl (cZ, 16, .inl p0_isOut)), ((ad_p0 5), .inl (cI, 256, .inl p0_puts)), ((ad_p0 40), .inl (cJ, 512, .inr (.inl p0_rows))), ((ad_p0 4), .inl (cI, 256, .inl p0_takes)), ((ad_p0 42), .inl (cI, 256, .inl p0_weights))]
abbrev q_X10_weights (dC : Nat → ClassId) (dI : Nat → Nat → Nat) (cI cJ cZ : ClassId) (h_p0 : Nat) (ad_p0 : Nat → Nat) (p0_places : Int32) (p0_steps : Int32) (p0_pastFirst : Int32) (p0_past : Int32) (p0_goings : Int32) (p0_rowSize : Int32) (p0_ways : Int32) (p0_hasField : Int32) (p0_fieldSize : Int32) (p0_faultNow : Int32) (p0_hasTree : Int32) (p0_treeSize : Int32) (p0_weightCount : Int32) (p0_roundCount : Int32) (p0_setCount : Int32) (p0_isOut : Nat → Int32) (p0_puts : Nat → Int32) (p0_rows : Nat → Int64) (p0_takes : Nat → Int32) (p0_weights : Nat → Int32) (post : Int32 → (Int32) → (Nat → Int32) → (Nat → Int64) → (Nat → Int32) → Prop) (A : Nat → Prop) : Array Value → State → Outcome → State → Prop := va_Qi (fun r (u : (Int32) × (Nat → Int32) × (Nat → Int64) × (Nat → Int32)) => post r (u.1) (u.2.1) (u.2.2.1) (u.2.2.2)) (fun (u : (Int32) × (Nat → Int32) × (Nat → Int64) × (Nat → Int32)) t => xPost (dC, dI) A (wld_X10_weights cI cJ cZ h_p0 ad_p0 p0_places p0_steps p0_pastFirst p0_past p0_goings p0_rowSize p0_ways p0_hasField p0_fieldSize p0_faultNow p0_hasTree p0_treeSize (u.1) p0_roundCount p0_setCount (u.2.1) p0_puts (u.2.2.1) p0_takes (u.2.2.2)) t) A
def w_X10_weights (p0_places : Int32) (p0_steps : Int32) (p0_weightCount : Int32) (p0_isOut : Nat → Int32) (p0_puts : Nat → Int32) (p0_rows : Nat → Int64) (p0_takes : Nat → Int32) (p0_weights : Nat → Int32) (post : Int32 → (Int32) → (Nat → Int32) → (Nat → Int64) → (Nat → Int32) → Prop) : Prop :=
  w_X10_layRows p0_isOut p0_puts p0_rows p0_takes p0_places p0_steps (1 : Int32) (fun y1 y2 =>
  w_X10_reduce y1 y2 p0_places p0_steps (fun r3 y4 y5 =>
  (¬ r3 = 0 →
    w_X10_gather 256 y4 y5 p0_weights p0_places (fun r8 y9 =>
    (post r8 r8 y4 y5 y9))) ∧
  (r3 = 0 →
    (post (-2000000004 : Int32) (0 : Int32) y4 y5 p0_weights))))
set_option maxHeartbeats 4000000 in
set_option maxRecDepth 100000 in
theorem c_X10_weights {l : Launch} {dC : Nat → ClassId} {dI : Nat → Nat → Nat} {sz : Nat} {cI cJ cZ : ClassId} {h_p0 : Nat} {ad_p0 : Nat → Nat} {p0_places : Int32} {p0_steps : Int32} {p0_pastFirst : Int32} {p0_past : Int32} {p0_goings : Int32} {p0_rowSize : Int32} {p0_ways : Int32} {p0_hasField : Int32} {p0_fieldSize : Int32} {p0_faultNow : Int32} {p0_hasTree : Int32} {p0_treeSize : Int32} {p0_weightCount : Int32} {p0_roundCount : Int32} {p0_setCount : Int32} {p0_isOut : Nat → Int32} {p0_puts : Nat → Int32} {p0_rows : Nat → Int64} {p0_takes : Nat → Int32} {p0_weights : Nat → Int32}  {post : Int32 → (Int32) → (Nat → Int32) → (Nat → Int64) → (Nat → Int32) → Prop} (hw : w_X10_weights p0_places p0_steps p0_weightCount p0_isOut p0_puts p0_rows p0_takes p0_weights post) : Met l yX10_weights wsX10_weights ({ frames := 3, cells := 0, slots := 0, locals := 85 }) (va_Pc [.ref h_p0] (xPre (dC, dI) cI cJ cZ (wld_X10_weights cI cJ cZ h_p0 ad_p0 p0_places p0_steps p0_pastFirst p0_past p0_goings p0_rowSize p0_ways p0_hasField p0_fieldSize p0_faultNow p0_hasTree p0_treeSize p0_weightCount p0_roundCount p0_setCount p0_isOut p0_puts p0_rows p0_takes p0_weights) sz)) (q_X10_weights dC dI cI cJ cZ h_p0 ad_p0 p0_places p0_steps p0_pastFirst p0_past p0_goings p0_rowSize p0_ways p0_hasField p0_fieldSize p0_faultNow p0_hasTree p0_treeSize p0_weightCount p0_roundCount p0_setCount p0_isOut p0_puts p0_rows p0_takes p0_weights post (va_A (wld_X10_weights cI cJ cZ h_p0 ad_p0 p0_places p0_steps p0_pastFirst p0_past p0_goings p0_rowSize p0_ways p0_hasField p0_fieldSize p0_faultNow p0_hasTree p0_treeSize p0_weightCount p0_roundCount p0_setCount p0_isOut p0_puts p0_rows p0_takes p0_weights) sz)) 0 0 (va_A (wld_X10_weights cI cJ cZ h_p0 ad_p0 p0_places p0_steps p0_pastFirst p0_past p0_goings p0_rowSize p0_ways p0_hasField p0_fieldSize p0_faultNow p0_hasTree p0_treeSize p0_weightCount p0_roundCount p0_setCount p0_isOut p0_puts p0_rows p0_takes p0_weights) sz) := by
  refine x_met (cc := cX10_weights) (maxL := 1) (ret := (some .int)) (own := RX10) (Qc := fun A => (q_X10_weights dC dI cI cJ cZ h_p0 ad_p0 p0_places p0_steps p0_pastFirst p0_past p0_goings p0_rowSize p0_ways p0_hasField p0_fieldSize p0_faultNow p0_hasTree p0_treeSize p0_weightCount p0_roundCount p0_setCount p0_isOut p0_puts p0_rows p0_takes p0_weights post A)) (by decide) rfl rfl (Nat.le_of_ble_eq_true rfl) ?_
  intro p e s m args below meth c A ls E0 hP hD hS hl
  obtain ⟨hx, hb, hr, hml, hown, hts, hlocks, hK, hA, n1, n2⟩ := id E0
  have iX10 : ∀ w ∈ u_ws RX10 TX10 50, w ∈ wsX10_weights := fun w h => List.mem_cons_of_mem _ (List.mem_append_right _ h)
  have hS0 := hS
  have hl : lv_has ls 1 [(0, .ref h_p0)] := hl
  unfold w_X10_weights at hw
  obtain ⟨H, hH⟩ : ∃ H, H = s.heap := ⟨_, rfl⟩
  have hS : va_S A s.heap H [] := by rw [hH]; exact hS
  have hP : va_P (dC, dI) vwCl (wld_X10_weights cI cJ cZ h_p0 ad_p0 p0_places p0_steps p0_pastFirst p0_past p0_goings p0_rowSize p0_ways p0_hasField p0_fieldSize p0_faultNow p0_hasTree p0_treeSize p0_weightCount p0_roundCount p0_setCount p0_isOut p0_puts p0_rows p0_takes p0_weights) H := by rw [hH]; exact hP
  suffices hG : W p l e ({ frames := 3, cells := 0, slots := 0, locals := 85 }) s m args below meth c H [] 0 0 (MQ below (q_X10_weights dC dI cI cJ cZ h_p0 ad_p0 p0_places p0_steps p0_pastFirst p0_past p0_goings p0_rowSize p0_ways p0_hasField p0_fieldSize p0_faultNow p0_hasTree p0_treeSize p0_weightCount p0_roundCount p0_setCount p0_isOut p0_puts p0_rows p0_takes p0_weights post A) args s 0 0 A) (F0 m 0 ls []) by rw [hH] at hG; exact hG
  clear hH
  refine lv_aload_n hx hb dX10_weights_0 rfl (lv_at hl 0 rfl) ?_
  refine lv_iconst (v := 0) hx hb dX10_weights_1 (by decide) ?_
  refine va_put (D := (dC, dI)) (ci := 10) (v := .int (0 : Int32)) (ty := .int) (C := RX10) (T := TX10) (N := 50) hx hb hts iX10 tyX10 tyX10_ok nmX10 hown hK hP hD hS 0 rfl rfl 43 (by decide) (hts (.fieldLink RX10 143 "NetHouseModel" "weightCount" "I") (by decide +kernel)) (fun _ h9 => h9) rfl (by decide +kernel) rfl rfl (Nat.le_of_ble_eq_true rfl) dX10_weights_2 (fun H locs hP hD hS => ?_)
  have hP : va_P (dC, dI) vwCl (wld_X10_weights cI cJ cZ h_p0 ad_p0 p0_places p0_steps p0_pastFirst p0_past p0_goings p0_rowSize p0_ways p0_hasField p0_fieldSize p0_faultNow p0_hasTree p0_treeSize (0 : Int32) p0_roundCount p0_setCount p0_isOut p0_puts p0_rows p0_takes p0_weights) H := hP
  have hD : va_D A (wld_X10_weights cI cJ cZ h_p0 ad_p0 p0_places p0_steps p0_pastFirst p0_past p0_goings p0_rowSize p0_ways p0_hasField p0_fieldSize p0_faultNow p0_hasTree p0_treeSize (0 : Int32) p0_roundCount p0_setCount p0_isOut p0_puts p0_rows p0_takes p0_weights) := hD
  refine lv_aload_n hx hb dX10_weights_5 rfl (lv_at hl 0 rfl) ?_
  refine lv_aload_n hx hb dX10_weights_6 rfl (lv_at hl 0 rfl) ?_
  refine va_get (D := (dC, dI)) (ci := 10) (v := .int p0_places) (C := RX10) (T := TX10) (N := 50) hx hb hts iX10 hown hK hP 0 rfl rfl 0 (by decide) (hts (.fieldLink RX10 127 "NetHouseModel" "places" "I") (by decide +kernel)) (fun _ h9 => h9) rfl dX10_weights_7 ?_
  refine lv_aload_n hx hb dX10_weights_10 rfl (lv_at hl 0 rfl) ?_
  refine va_get (D := (dC, dI)) (ci := 10) (v := .int p0_steps) (C := RX10) (T := TX10) (N := 50) hx hb hts iX10 hown hK hP 0 rfl rfl 1 (by decide) (hts (.fieldLink RX10 130 "NetHouseModel" "steps" "I") (by decide +kernel)) (fun _ h9 => h9) rfl dX10_weights_11 ?_
  refine lv_iconst (v := 1) hx hb dX10_weights_14 (by decide) ?_
  obtain ⟨hPc, hDc⟩ := x_sub (wc := (wld_X10_layRows cI cJ cZ h_p0 ad_p0 p0_places p0_steps p0_pastFirst p0_past p0_goings p0_rowSize p0_ways p0_hasField p0_fieldSize p0_faultNow p0_hasTree p0_treeSize (0 : Int32) p0_roundCount p0_setCount p0_isOut p0_puts p0_rows p0_takes)) hP hD [0, 1, 2, 3, 4] (n := 6) rfl rfl (by decide +kernel)
  refine x_callv (ws' := fun (u : (Nat → Int32) × (Nat → Int64)) => (wld_X10_weights cI cJ cZ h_p0 ad_p0 p0_places p0_steps p0_pastFirst p0_past p0_goings p0_rowSize p0_ways p0_hasField p0_fieldSize p0_faultNow p0_hasTree p0_treeSize (0 : Int32) p0_roundCount p0_setCount (u.1) p0_puts (u.2) p0_takes p0_weights)) hP hD hS hA [0, 1, 2, 3, 4] [5] [1, 2, 3, 4, 5, 0] (n := 6) (k := 5) rfl (fun _ => rfl) rfl (by decide +kernel) (fun _ => rfl) (va_runV (As := [.int p0_places, .int p0_steps, .int (1 : Int32)]) (rest := []) ⟨hx, hb, hml, hown, hts⟩ (c_X10_layRows (l := l) (dC := dC) (dI := dI) (cI := cI) (cJ := cJ) (cZ := cZ) (sz := H.size) (h_p0 := h_p0) (ad_p0 := ad_p0) (p0_places := p0_places) (p0_steps := p0_steps) (p0_pastFirst := p0_pastFirst) (p0_past := p0_past) (p0_goings := p0_goings) (p0_rowSize := p0_rowSize) (p0_ways := p0_ways) (p0_hasField := p0_hasField) (p0_fieldSize := p0_fieldSize) (p0_faultNow := p0_faultNow) (p0_hasTree := p0_hasTree) (p0_treeSize := p0_treeSize) (p0_weightCount := (0 : Int32)) (p0_roundCount := p0_roundCount) (p0_setCount := p0_setCount) (p0_isOut := p0_isOut) (p0_puts := p0_puts) (p0_rows := p0_rows) (p0_takes := p0_takes) hw) (cwV 3 hts gX10_weights_X10_layRows rfl rfl rfl (by decide +kernel) ⟨Nat.le_of_ble_eq_true rfl, Nat.le_of_ble_eq_true rfl⟩) ⟨xPre_blind, va_recv hK hP (ci := 10) (q0 := 0) rfl rfl, xPre_at hK hPc hDc n1 n2⟩ rfl rfl hl.1 rfl (lv_room (Nat.le_of_ble_eq_true rfl)) dX10_weights_15 ⟨Nat.zero_le _, Nat.zero_le _⟩) (fun u H locs hw hP hD hS => ?_)
  obtain ⟨y1, y2⟩ := u
  try dsimp only at hw
  have hP : va_P (dC, dI) vwCl (wld_X10_weights cI cJ cZ h_p0 ad_p0 p0_places p0_steps p0_pastFirst p0_past p0_goings p0_rowSize p0_ways p0_hasField p0_fieldSize p0_faultNow p0_hasTree p0_treeSize (0 : Int32) p0_roundCount p0_setCount y1 p0_puts y2 p0_takes p0_weights) H := hP
  have hD : va_D A (wld_X10_weights cI cJ cZ h_p0 ad_p0 p0_places p0_steps p0_pastFirst p0_past p0_goings p0_rowSize p0_ways p0_hasField p0_fieldSize p0_faultNow p0_hasTree p0_treeSize (0 : Int32) p0_roundCount p0_setCount y1 p0_puts y2 p0_takes p0_weights) := hD
  refine lv_aload_n hx hb dX10_weights_18 rfl (lv_at hl 0 rfl) ?_
  refine lv_aload_n hx hb dX10_weights_19 rfl (lv_at hl 0 rfl) ?_
  refine va_get (D := (dC, dI)) (ci := 10) (v := .int p0_places) (C := RX10) (T := TX10) (N := 50) hx hb hts iX10 hown hK hP 0 rfl rfl 0 (by decide) (hts (.fieldLink RX10 127 "NetHouseModel" "places" "I") (by decide +kernel)) (fun _ h9 => h9) rfl dX10_weights_20 ?_
  refine lv_aload_n hx hb dX10_weights_23 rfl (lv_at hl 0 rfl) ?_
  refine va_get (D := (dC, dI)) (ci := 10) (v := .int p0_steps) (C := RX10) (T := TX10) (N := 50) hx hb hts iX10 hown hK hP 0 rfl rfl 1 (by decide) (hts (.fieldLink RX10 130 "NetHouseModel" "steps" "I") (by decide +kernel)) (fun _ h9 => h9) rfl dX10_weights_24 ?_
  obtain ⟨hPc, hDc⟩ := x_sub (wc := (wld_X10_reduce cI cJ cZ h_p0 ad_p0 p0_places p0_steps p0_pastFirst p0_past p0_goings p0_rowSize p0_ways p0_hasField p0_fieldSize p0_faultNow p0_hasTree p0_treeSize (0 : Int32) p0_roundCount p0_setCount y1 y2)) hP hD [0, 1, 3] (n := 6) rfl rfl (by decide +kernel)
  refine x_calli (ws' := fun (u : (Nat → Int32) × (Nat → Int64)) => (wld_X10_weights cI cJ cZ h_p0 ad_p0 p0_places p0_steps p0_pastFirst p0_past p0_goings p0_rowSize p0_ways p0_hasField p0_fieldSize p0_faultNow p0_hasTree p0_treeSize (0 : Int32) p0_roundCount p0_setCount (u.1) p0_puts (u.2) p0_takes p0_weights)) hP hD hS hA [0, 1, 3] [2, 4, 5] [3, 4, 0, 5, 1, 2] (n := 6) (k := 3) rfl (fun _ => rfl) rfl (by decide +kernel) (fun _ => rfl) (va_runV (As := [.int p0_places, .int p0_steps]) (rest := []) ⟨hx, hb, hml, hown, hts⟩ (c_X10_reduce (l := l) (dC := dC) (dI := dI) (cI := cI) (cJ := cJ) (cZ := cZ) (sz := H.size) (h_p0 := h_p0) (ad_p0 := ad_p0) (p0_places := p0_places) (p0_steps := p0_steps) (p0_pastFirst := p0_pastFirst) (p0_past := p0_past) (p0_goings := p0_goings) (p0_rowSize := p0_rowSize) (p0_ways := p0_ways) (p0_hasField := p0_hasField) (p0_fieldSize := p0_fieldSize) (p0_faultNow := p0_faultNow) (p0_hasTree := p0_hasTree) (p0_treeSize := p0_treeSize) (p0_weightCount := (0 : Int32)) (p0_roundCount := p0_roundCount) (p0_setCount := p0_setCount) (p0_isOut := y1) (p0_rows := y2) hw) (cwV 2 hts gX10_weights_X10_reduce rfl rfl rfl (by decide +kernel) ⟨Nat.le_of_ble_eq_true rfl, Nat.le_of_ble_eq_true rfl⟩) ⟨xPre_blind, va_recv hK hP (ci := 10) (q0 := 0) rfl rfl, xPre_at hK hPc hDc n1 n2⟩ rfl rfl hl.1 rfl (lv_room (Nat.le_of_ble_eq_true rfl)) dX10_weights_27 ⟨Nat.zero_le _, Nat.zero_le _⟩) (fun r3 u H locs hw hP hD hS => ?_)
  obtain ⟨y4, y5⟩ := u
  try dsimp only at hw
  have hP : va_P (dC, dI) vwCl (wld_X10_weights cI cJ cZ h_p0 ad_p0 p0_places p0_steps p0_pastFirst p0_past p0_goings p0_rowSize p0_ways p0_hasField p0_fieldSize p0_faultNow p0_hasTree p0_treeSize (0 : Int32) p0_roundCount p0_setCount y4 p0_puts y5 p0_takes p0_weights) H := hP
  have hD : va_D A (wld_X10_weights cI cJ cZ h_p0 ad_p0 p0_places p0_steps p0_pastFirst p0_past p0_goings p0_rowSize p0_ways p0_hasField p0_fieldSize p0_faultNow p0_hasTree p0_treeSize (0 : Int32) p0_roundCount p0_setCount y4 p0_puts y5 p0_takes p0_weights) := hD
  refine lv_if_ne (tgt := 36) hx hb dX10_weights_30 (by decide) (fun c6 => ?_) (fun c7 => ?_)
  · have hw := hw.1 c6
    refine lv_aload_n hx hb dX10_weights_36 rfl (lv_at hl 0 rfl) ?_
    refine lv_aload_n hx hb dX10_weights_37 rfl (lv_at hl 0 rfl) ?_
    refine lv_aload_n hx hb dX10_weights_38 rfl (lv_at hl 0 rfl) ?_
    refine va_get (D := (dC, dI)) (ci := 10) (v := .int p0_places) (C := RX10) (T := TX10) (N := 50) hx hb hts iX10 hown hK hP 0 rfl rfl 0 (by decide) (hts (.fieldLink RX10 127 "NetHouseModel" "places" "I") (by decide +kernel)) (fun _ h9 => h9) rfl dX10_weights_39 ?_
    refine lv_aload_n hx hb dX10_weights_42 rfl (lv_at hl 0 rfl) ?_
    refine va_get (D := (dC, dI)) (ci := 10) (v := .ref (ad_p0 42)) (C := RX10) (T := TX10) (N := 50) hx hb hts iX10 hown hK hP 0 rfl rfl 42 (by decide) (hts (.fieldLink RX10 109 "NetHouseModel" "weights" "[I") (by decide +kernel)) (fun _ h9 => h9) rfl dX10_weights_43 ?_
    obtain ⟨hPc, hDc⟩ := x_sub (wc := (wld_X10_gather cI cJ cZ h_p0 (ad_p0 42) ad_p0 256 p0_places p0_steps p0_pastFirst p0_past p0_goings p0_rowSize p0_ways p0_hasField p0_fieldSize p0_faultNow p0_hasTree p0_treeSize (0 : Int32) p0_roundCount p0_setCount y4 y5 p0_weights)) hP hD [0, 1, 3, 5] (n := 6) rfl rfl (by decide +kernel)
    refine x_calli (ws' := fun (u : (Nat → Int32)) => (wld_X10_weights cI cJ cZ h_p0 ad_p0 p0_places p0_steps p0_pastFirst p0_past p0_goings p0_rowSize p0_ways p0_hasField p0_fieldSize p0_faultNow p0_hasTree p0_treeSize (0 : Int32) p0_roundCount p0_setCount y4 p0_puts y5 p0_takes u)) hP hD hS hA [0, 1, 3, 5] [2, 4] [2, 3, 0, 4, 1, 5] (n := 6) (k := 4) rfl (fun _ => rfl) rfl (by decide +kernel) (fun _ => rfl) (va_runV (As := [.int p0_places, .ref (ad_p0 42)]) (rest := [.ref h_p0]) ⟨hx, hb, hml, hown, hts⟩ (c_X10_gather (l := l) (dC := dC) (dI := dI) (cI := cI) (cJ := cJ) (cZ := cZ) (sz := H.size) (h_p0 := h_p0) (h_p2 := (ad_p0 42)) (ad_p0 := ad_p0) (n_p2 := 256) (p0_places := p0_places) (p0_steps := p0_steps) (p0_pastFirst := p0_pastFirst) (p0_past := p0_past) (p0_goings := p0_goings) (p0_rowSize := p0_rowSize) (p0_ways := p0_ways) (p0_hasField := p0_hasField) (p0_fieldSize := p0_fieldSize) (p0_faultNow := p0_faultNow) (p0_hasTree := p0_hasTree) (p0_treeSize := p0_treeSize) (p0_weightCount := (0 : Int32)) (p0_roundCount := p0_roundCount) (p0_setCount := p0_setCount) (p0_isOut := y4) (p0_rows := y5) (p2 := p0_weights) hw) (cwV 2 hts gX10_weights_X10_gather rfl rfl rfl (by decide +kernel) ⟨Nat.le_of_ble_eq_true rfl, Nat.le_of_ble_eq_true rfl⟩) ⟨xPre_blind, va_recv hK hP (ci := 10) (q0 := 0) rfl rfl, xPre_at hK hPc hDc n1 n2⟩ rfl rfl hl.1 rfl (lv_room (Nat.le_of_ble_eq_true rfl)) dX10_weights_46 ⟨Nat.zero_le _, Nat.zero_le _⟩) (fun r8 u H locs hw hP hD hS => ?_)
    obtain ⟨y9, rfl⟩ : ∃ z, z = u := ⟨_, rfl⟩
    try dsimp only at hw
    have hP : va_P (dC, dI) vwCl (wld_X10_weights cI cJ cZ h_p0 ad_p0 p0_places p0_steps p0_pastFirst p0_past p0_goings p0_rowSize p0_ways p0_hasField p0_fieldSize p0_faultNow p0_hasTree p0_treeSize (0 : Int32) p0_roundCount p0_setCount y4 p0_puts y5 p0_takes y9) H := hP
    have hD : va_D A (wld_X10_weights cI cJ cZ h_p0 ad_p0 p0_places p0_steps p0_pastFirst p0_past p0_goings p0_rowSize p0_ways p0_hasField p0_fieldSize p0_faultNow p0_hasTree p0_treeSize (0 : Int32) p0_roundCount p0_setCount y4 p0_puts y5 p0_takes y9) := hD
    refine va_put (D := (dC, dI)) (ci := 10) (v := .int r8) (ty := .int) (C := RX10) (T := TX10) (N := 50) hx hb hts iX10 tyX10 tyX10_ok nmX10 hown hK hP hD hS 0 rfl rfl 43 (by decide) (hts (.fieldLink RX10 143 "NetHouseModel" "weightCount" "I") (by decide +kernel)) (fun _ h9 => h9) rfl (by decide +kernel) rfl rfl (Nat.le_of_ble_eq_true rfl) dX10_weights_49 (fun H locs hP hD hS => ?_)
    have hP : va_P (dC, dI) vwCl (wld_X10_weights cI cJ cZ h_p0 ad_p0 p0_places p0_steps p0_pastFirst p0_past p0_goings p0_rowSize p0_ways p0_hasField p0_fieldSize p0_faultNow p0_hasTree p0_treeSize r8 p0_roundCount p0_setCount y4 p0_puts y5 p0_takes y9) H := hP
    have hD : va_D A (wld_X10_weights cI cJ cZ h_p0 ad_p0 p0_places p0_steps p0_pastFirst p0_past p0_goings p0_rowSize p0_ways p0_hasField p0_fieldSize p0_faultNow p0_hasTree p0_treeSize r8 p0_roundCount p0_setCount y4 p0_puts y5 p0_takes y9) := hD
    refine lv_aload_n hx hb dX10_weights_52 rfl (lv_at hl 0 rfl) ?_
    refine va_get (D := (dC, dI)) (ci := 10) (v := .int r8) (C := RX10) (T := TX10) (N := 50) hx hb hts iX10 hown hK hP 0 rfl rfl 43 (by decide) (hts (.fieldLink RX10 143 "NetHouseModel" "weightCount" "I") (by decide +kernel)) (fun _ h9 => h9) rfl dX10_weights_53 ?_
    exact x_iret (w1 := fun (u : (Int32) × (Nat → Int32) × (Nat → Int64) × (Nat → Int32)) => (wld_X10_weights cI cJ cZ h_p0 ad_p0 p0_places p0_steps p0_pastFirst p0_past p0_goings p0_rowSize p0_ways p0_hasField p0_fieldSize p0_faultNow p0_hasTree p0_treeSize (u.1) p0_roundCount p0_setCount (u.2.1) p0_puts (u.2.2.1) p0_takes (u.2.2.2))) hx hb hr hlocks (r8, y4, y5, y9) hw hP hD hS dX10_weights_56
  · have hw := hw.2 c7
    refine lv_ldc (v := -2000000004) hx hb hown (hts (.constant RX10 251 (-2000000004)) (by decide +kernel)) dX10_weights_33 ?_
    exact x_iret (w1 := fun (u : (Int32) × (Nat → Int32) × (Nat → Int64) × (Nat → Int32)) => (wld_X10_weights cI cJ cZ h_p0 ad_p0 p0_places p0_steps p0_pastFirst p0_past p0_goings p0_rowSize p0_ways p0_hasField p0_fieldSize p0_faultNow p0_hasTree p0_treeSize (u.1) p0_roundCount p0_setCount (u.2.1) p0_puts (u.2.2.1) p0_takes (u.2.2.2))) hx hb hr hlocks ((0 : Int32), y4, y5, p0_weights) hw hP hD hS dX10_weights_35
abbrev wld_X10_weight (cI cJ cZ : ClassId) (h_p0 : Nat) (ad_p0 : Nat → Nat) (p0_places : Int32) (p0_steps : Int32) (p0_pastFirst : Int32) (p0_past : Int32) (p0_goings : Int32) (p0_rowSize : Int32) (p0_ways : Int32) (p0_hasField : Int32) (p0_fieldSize : Int32) (p0_faultNow : Int32) (p0_hasTree : Int32) (p0_treeSize : Int32) (p0_weightCount : Int32) (p0_roundCount : Int32) (p0_setCount : Int32) (p0_weights : Nat → Int32) : va_W := [(h_p0, .inr (10, [.int p0_places, .int p0_steps, .ref (ad_p0 2), .ref (ad_p0 3), .ref (ad_p0 4), .ref (ad_p0 5), .ref (ad_p0 6), .ref (ad_p0 7), .ref (ad_p0 8), .ref (ad_p0 9), .ref (ad_p0 10), .ref (ad_p0 11), .ref (ad_p0 12), .ref (ad_p0 13), .ref (ad_p0 14), .int p0_pastFirst, .int p0_past, .int p0_goings, .int p0_rowSize, .ref (ad_p0 19), .ref (ad_p0 20), .int p0_ways, .ref (ad_p0 22), .ref (ad_p0 23), .int p0_hasField, .int p0_fieldSize, .ref (ad_p0 26), .ref (ad_p0 27), .ref (ad_p0 28), .ref (ad_p0 29), .ref (ad_p0 30), .ref (ad_p0 31), .ref (ad_p0 32), .int p0_faultNow, .int p0_hasTree, .int p0_treeSize, .ref (ad_p0 36), .ref (ad_p0 37), .ref (ad_p0 38), .ref (ad_p0 39), .ref (ad_p0 40), .ref (ad_p0 41), .ref (ad_p0 42), .int p0_weightCount, .ref (ad_p0 44), .int p0_roundCount, .ref (ad_p0 46), .int p0_setCount, .ref (ad_p0 48), .ref (ad_p0 49)])), ((ad_p0 42), .inl (cI, 256, .inl p0_weights))]
abbrev q_X10_weight (dC : Nat → ClassId) (dI : Nat → Nat → Nat) (cI cJ cZ : ClassId) (h_p0 : Nat) (ad_p0 : Nat → Nat) (p0_places : Int32) (p0_steps : Int32) (p0_pastFirst : Int32) (p0_past : Int32) (p0_goings : Int32) (p0_rowSize : Int32) (p0_ways : Int32) (p0_hasField : Int32) (p0_fieldSize : Int32) (p0_faultNow : Int32) (p0_hasTree : Int32) (p0_treeSize : Int32) (p0_weightCount : Int32) (p0_roundCount : Int32) (p0_setCount : Int32) (p0_weights : Nat → Int32) (post : Int32 → Prop) (A : Nat → Prop) : Array Value → State → Outcome → State → Prop := va_Qi (fun r (u : Unit) => post r ) (fun (u : Unit) t => xPost (dC, dI) A (wld_X10_weight cI cJ cZ h_p0 ad_p0 p0_places p0_steps p0_pastFirst p0_past p0_goings p0_rowSize p0_ways p0_hasField p0_fieldSize p0_faultNow p0_hasTree p0_treeSize p0_weightCount p0_roundCount p0_setCount p0_weights) t) A
def w_X10_weight (p0_places : Int32) (p0_weightCount : Int32) (p0_weights : Nat → Int32) (a1 : Int32) (a2 : Int32) (post : Int32 → Prop) : Prop :=
  w_X10_isIn a1 (0 : Int32) (p0_weightCount - (1 : Int32)) (fun r1 =>
  (r1 = 0 →
    (post (-2000000001 : Int32))) ∧
  (¬ r1 = 0 →
    w_X10_isPlace p0_places a2 (fun r4 =>
    (r4 = 0 →
      (post (-2000000001 : Int32))) ∧
    (¬ r4 = 0 →
      vp_in (((16 : Int32) * a1) + a2) 256 ∧
      (post (p0_weights (((16 : Int32) * a1) + a2).toNatClampNeg))))))
set_option maxHeartbeats 4000000 in
set_option maxRecDepth 100000 in
theorem c_X10_weight {l : Launch} {dC : Nat → ClassId} {dI : Nat → Nat → Nat} {sz : Nat} {cI cJ cZ : ClassId} {h_p0 : Nat} {ad_p0 : Nat → Nat} {p0_places : Int32} {p0_steps : Int32} {p0_pastFirst : Int32} {p0_past : Int32} {p0_goings : Int32} {p0_rowSize : Int32} {p0_ways : Int32} {p0_hasField : Int32} {p0_fieldSize : Int32} {p0_faultNow : Int32} {p0_hasTree : Int32} {p0_treeSize : Int32} {p0_weightCount : Int32} {p0_roundCount : Int32} {p0_setCount : Int32} {p0_weights : Nat → Int32} {a1 : Int32} {a2 : Int32} {post : Int32 → Prop} (hw : w_X10_weight p0_places p0_weightCount p0_weights a1 a2 post) : Met l yX10_weight wsX10_weight ({ frames := 1, cells := 0, slots := 0, locals := 22 }) (va_Pc [.ref h_p0, .int a1, .int a2] (xPre (dC, dI) cI cJ cZ (wld_X10_weight cI cJ cZ h_p0 ad_p0 p0_places p0_steps p0_pastFirst p0_past p0_goings p0_rowSize p0_ways p0_hasField p0_fieldSize p0_faultNow p0_hasTree p0_treeSize p0_weightCount p0_roundCount p0_setCount p0_weights) sz)) (q_X10_weight dC dI cI cJ cZ h_p0 ad_p0 p0_places p0_steps p0_pastFirst p0_past p0_goings p0_rowSize p0_ways p0_hasField p0_fieldSize p0_faultNow p0_hasTree p0_treeSize p0_weightCount p0_roundCount p0_setCount p0_weights post (va_A (wld_X10_weight cI cJ cZ h_p0 ad_p0 p0_places p0_steps p0_pastFirst p0_past p0_goings p0_rowSize p0_ways p0_hasField p0_fieldSize p0_faultNow p0_hasTree p0_treeSize p0_weightCount p0_roundCount p0_setCount p0_weights) sz)) 0 0 (va_A (wld_X10_weight cI cJ cZ h_p0 ad_p0 p0_places p0_steps p0_pastFirst p0_past p0_goings p0_rowSize p0_ways p0_hasField p0_fieldSize p0_faultNow p0_hasTree p0_treeSize p0_weightCount p0_roundCount p0_setCount p0_weights) sz) := by
  refine x_met (cc := cX10_weight) (maxL := 3) (ret := (some .int)) (own := RX10) (Qc := fun A => (q_X10_weight dC dI cI cJ cZ h_p0 ad_p0 p0_places p0_steps p0_pastFirst p0_past p0_goings p0_rowSize p0_ways p0_hasField p0_fieldSize p0_faultNow p0_hasTree p0_treeSize p0_weightCount p0_roundCount p0_setCount p0_weights post A)) (by decide) rfl rfl (Nat.le_of_ble_eq_true rfl) ?_
  intro p e s m args below meth c A ls E0 hP hD hS hl
  obtain ⟨hx, hb, hr, hml, hown, hts, hlocks, hK, hA, n1, n2⟩ := id E0
  have iX10 : ∀ w ∈ u_ws RX10 TX10 50, w ∈ wsX10_weight := fun w h => List.mem_cons_of_mem _ (List.mem_append_right _ h)
  have hS0 := hS
  have hl : lv_has ls 3 [(0, .ref h_p0), (1, .int a1), (2, .int a2)] := hl
  unfold w_X10_weight at hw
  obtain ⟨H, hH⟩ : ∃ H, H = s.heap := ⟨_, rfl⟩
  have hS : va_S A s.heap H [] := by rw [hH]; exact hS
  have hP : va_P (dC, dI) vwCl (wld_X10_weight cI cJ cZ h_p0 ad_p0 p0_places p0_steps p0_pastFirst p0_past p0_goings p0_rowSize p0_ways p0_hasField p0_fieldSize p0_faultNow p0_hasTree p0_treeSize p0_weightCount p0_roundCount p0_setCount p0_weights) H := by rw [hH]; exact hP
  suffices hG : W p l e ({ frames := 1, cells := 0, slots := 0, locals := 22 }) s m args below meth c H [] 0 0 (MQ below (q_X10_weight dC dI cI cJ cZ h_p0 ad_p0 p0_places p0_steps p0_pastFirst p0_past p0_goings p0_rowSize p0_ways p0_hasField p0_fieldSize p0_faultNow p0_hasTree p0_treeSize p0_weightCount p0_roundCount p0_setCount p0_weights post A) args s 0 0 A) (F0 m 0 ls []) by rw [hH] at hG; exact hG
  clear hH
  refine lv_iload_n hx hb dX10_weight_0 rfl (lv_at hl 1 rfl) ?_
  refine lv_iconst (v := 0) hx hb dX10_weight_1 (by decide) ?_
  refine lv_aload_n hx hb dX10_weight_2 rfl (lv_at hl 0 rfl) ?_
  refine va_get (D := (dC, dI)) (ci := 10) (v := .int p0_weightCount) (C := RX10) (T := TX10) (N := 50) hx hb hts iX10 hown hK hP 0 rfl rfl 43 (by decide) (hts (.fieldLink RX10 143 "NetHouseModel" "weightCount" "I") (by decide +kernel)) (fun _ h9 => h9) rfl dX10_weight_3 ?_
  refine lv_iconst (v := 1) hx hb dX10_weight_6 (by decide) ?_
  refine lv_isub hx hb dX10_weight_7 ?_
  obtain ⟨hPc, hDc⟩ := x_sub (wc := (wld_X10_isIn cI cJ cZ )) hP hD [] (n := 2) rfl rfl (by decide +kernel)
  refine x_calli (ws' := fun (u : Unit) => (wld_X10_weight cI cJ cZ h_p0 ad_p0 p0_places p0_steps p0_pastFirst p0_past p0_goings p0_rowSize p0_ways p0_hasField p0_fieldSize p0_faultNow p0_hasTree p0_treeSize p0_weightCount p0_roundCount p0_setCount p0_weights)) hP hD hS hA [] [0, 1] [0, 1] (n := 2) (k := 0) rfl (fun _ => rfl) rfl (by decide +kernel) (fun _ => rfl) (va_runS (As := [.int a1, .int (0 : Int32), .int (p0_weightCount - (1 : Int32))]) (rest := []) ⟨hx, hb, hml, hown, hts⟩ (c_X10_isIn (l := l) (dC := dC) (dI := dI) (cI := cI) (cJ := cJ) (cZ := cZ) (sz := H.size) hw) (va_cwS 3 hts gX10_weight_X10_isIn rfl rfl rfl (by decide +kernel) ⟨Nat.le_of_ble_eq_true rfl, Nat.le_of_ble_eq_true rfl⟩) ⟨xPre_blind, xPre_at hK hPc hDc n1 n2⟩ rfl rfl hl.1 rfl (lv_room (Nat.le_of_ble_eq_true rfl)) dX10_weight_8 ⟨Nat.zero_le _, Nat.zero_le _⟩) (fun r1 u H locs hw hP hD hS => ?_)
  try dsimp only at hw
  have hP : va_P (dC, dI) vwCl (wld_X10_weight cI cJ cZ h_p0 ad_p0 p0_places p0_steps p0_pastFirst p0_past p0_goings p0_rowSize p0_ways p0_hasField p0_fieldSize p0_faultNow p0_hasTree p0_treeSize p0_weightCount p0_roundCount p0_setCount p0_weights) H := hP
  have hD : va_D A (wld_X10_weight cI cJ cZ h_p0 ad_p0 p0_places p0_steps p0_pastFirst p0_past p0_goings p0_rowSize p0_ways p0_hasField p0_fieldSize p0_faultNow p0_hasTree p0_treeSize p0_weightCount p0_roundCount p0_setCount p0_weights) := hD
  refine lv_if_eq (tgt := 36) hx hb dX10_weight_11 (by decide) (fun c2 => ?_) (fun c3 => ?_)
  · have hw := hw.1 c2
    refine lv_ldc (v := -2000000001) hx hb hown (hts (.constant RX10 159 (-2000000001)) (by decide +kernel)) dX10_weight_36 ?_
    exact x_iret (w1 := fun (u : Unit) => (wld_X10_weight cI cJ cZ h_p0 ad_p0 p0_places p0_steps p0_pastFirst p0_past p0_goings p0_rowSize p0_ways p0_hasField p0_fieldSize p0_faultNow p0_hasTree p0_treeSize p0_weightCount p0_roundCount p0_setCount p0_weights)) hx hb hr hlocks () hw hP hD hS dX10_weight_38
  · have hw := hw.2 c3
    refine lv_aload_n hx hb dX10_weight_14 rfl (lv_at hl 0 rfl) ?_
    refine lv_iload_n hx hb dX10_weight_15 rfl (lv_at hl 2 rfl) ?_
    obtain ⟨hPc, hDc⟩ := x_sub (wc := (wld_X10_isPlace cI cJ cZ h_p0 ad_p0 p0_places p0_steps p0_pastFirst p0_past p0_goings p0_rowSize p0_ways p0_hasField p0_fieldSize p0_faultNow p0_hasTree p0_treeSize p0_weightCount p0_roundCount p0_setCount)) hP hD [0] (n := 2) rfl rfl (by decide +kernel)
    refine x_calli (ws' := fun (u : Unit) => (wld_X10_weight cI cJ cZ h_p0 ad_p0 p0_places p0_steps p0_pastFirst p0_past p0_goings p0_rowSize p0_ways p0_hasField p0_fieldSize p0_faultNow p0_hasTree p0_treeSize p0_weightCount p0_roundCount p0_setCount p0_weights)) hP hD hS hA [0] [1] [1, 0] (n := 2) (k := 1) rfl (fun _ => rfl) rfl (by decide +kernel) (fun _ => rfl) (va_runV (As := [.int a2]) (rest := []) ⟨hx, hb, hml, hown, hts⟩ (c_X10_isPlace (l := l) (dC := dC) (dI := dI) (cI := cI) (cJ := cJ) (cZ := cZ) (sz := H.size) (h_p0 := h_p0) (ad_p0 := ad_p0) (p0_places := p0_places) (p0_steps := p0_steps) (p0_pastFirst := p0_pastFirst) (p0_past := p0_past) (p0_goings := p0_goings) (p0_rowSize := p0_rowSize) (p0_ways := p0_ways) (p0_hasField := p0_hasField) (p0_fieldSize := p0_fieldSize) (p0_faultNow := p0_faultNow) (p0_hasTree := p0_hasTree) (p0_treeSize := p0_treeSize) (p0_weightCount := p0_weightCount) (p0_roundCount := p0_roundCount) (p0_setCount := p0_setCount) hw) (cwV 1 hts gX10_weight_X10_isPlace rfl rfl rfl (by decide +kernel) ⟨Nat.le_of_ble_eq_true rfl, Nat.le_of_ble_eq_true rfl⟩) ⟨xPre_blind, va_recv hK hP (ci := 10) (q0 := 0) rfl rfl, xPre_at hK hPc hDc n1 n2⟩ rfl rfl hl.1 rfl (lv_room (Nat.le_of_ble_eq_true rfl)) dX10_weight_16 ⟨Nat.zero_le _, Nat.zero_le _⟩) (fun r4 u H locs hw hP hD hS => ?_)
    try dsimp only at hw
    have hP : va_P (dC, dI) vwCl (wld_X10_weight cI cJ cZ h_p0 ad_p0 p0_places p0_steps p0_pastFirst p0_past p0_goings p0_rowSize p0_ways p0_hasField p0_fieldSize p0_faultNow p0_hasTree p0_treeSize p0_weightCount p0_roundCount p0_setCount p0_weights) H := hP
    have hD : va_D A (wld_X10_weight cI cJ cZ h_p0 ad_p0 p0_places p0_steps p0_pastFirst p0_past p0_goings p0_rowSize p0_ways p0_hasField p0_fieldSize p0_faultNow p0_hasTree p0_treeSize p0_weightCount p0_roundCount p0_setCount p0_weights) := hD
    refine lv_if_eq (tgt := 36) hx hb dX10_weight_19 (by decide) (fun c5 => ?_) (fun c6 => ?_)
    · have hw := hw.1 c5
      refine lv_ldc (v := -2000000001) hx hb hown (hts (.constant RX10 159 (-2000000001)) (by decide +kernel)) dX10_weight_36 ?_
      exact x_iret (w1 := fun (u : Unit) => (wld_X10_weight cI cJ cZ h_p0 ad_p0 p0_places p0_steps p0_pastFirst p0_past p0_goings p0_rowSize p0_ways p0_hasField p0_fieldSize p0_faultNow p0_hasTree p0_treeSize p0_weightCount p0_roundCount p0_setCount p0_weights)) hx hb hr hlocks () hw hP hD hS dX10_weight_38
    · have hw := hw.2 c6
      refine lv_aload_n hx hb dX10_weight_22 rfl (lv_at hl 0 rfl) ?_
      refine va_get (D := (dC, dI)) (ci := 10) (v := .ref (ad_p0 42)) (C := RX10) (T := TX10) (N := 50) hx hb hts iX10 hown hK hP 0 rfl rfl 42 (by decide) (hts (.fieldLink RX10 109 "NetHouseModel" "weights" "[I") (by decide +kernel)) (fun _ h9 => h9) rfl dX10_weight_23 ?_
      refine lv_bipush (v := 16) hx hb dX10_weight_26 (by decide) ?_
      refine lv_iload_n hx hb dX10_weight_28 rfl (lv_at hl 1 rfl) ?_
      refine lv_imul hx hb dX10_weight_29 ?_
      refine lv_iload_n hx hb dX10_weight_30 rfl (lv_at hl 2 rfl) ?_
      refine lv_iadd hx hb dX10_weight_31 ?_
      refine va_iald hx hb hK hP 1 0 rfl rfl hw.1 dX10_weight_32 ?_
      have hw := hw.2
      refine lv_goto (tgt := 38) hx hb dX10_weight_33 (by decide) ?_
      exact x_iret (w1 := fun (u : Unit) => (wld_X10_weight cI cJ cZ h_p0 ad_p0 p0_places p0_steps p0_pastFirst p0_past p0_goings p0_rowSize p0_ways p0_hasField p0_fieldSize p0_faultNow p0_hasTree p0_treeSize p0_weightCount p0_roundCount p0_setCount p0_weights)) hx hb hr hlocks () hw hP hD hS dX10_weight_38
abbrev wld_X10_rounds (cI cJ cZ : ClassId) (h_p0 : Nat) (ad_p0 : Nat → Nat) (p0_places : Int32) (p0_steps : Int32) (p0_pastFirst : Int32) (p0_past : Int32) (p0_goings : Int32) (p0_rowSize : Int32) (p0_ways : Int32) (p0_hasField : Int32) (p0_fieldSize : Int32) (p0_faultNow : Int32) (p0_hasTree : Int32) (p0_treeSize : Int32) (p0_weightCount : Int32) (p0_roundCount : Int32) (p0_setCount : Int32) (p0_isOut : Nat → Int32) (p0_puts : Nat → Int32) (p0_rounds : Nat → Int32) (p0_rows : Nat → Int64) (p0_takes : Nat → Int32) : va_W := [(h_p0, .inr (10, [.int p0_places, .int p0_steps, .ref (ad_p0 2), .ref (ad_p0 3), .ref (ad_p0 4), .ref (ad_p0 5), .ref (ad_p0 6), .ref (ad_p0 7), .ref (ad_p0 8), .ref (ad_p0 9), .ref (ad_p0 10), .ref (ad_p0 11), .ref (ad_p0 12), .ref (ad_p0 13), .ref (ad_p0 14), .int p0_pastFirst, .int p0_past, .int p0_goings, .int p0_rowSize, .ref (ad_p0 19), .ref (ad_p0 20), .int p0_ways, .ref (ad_p0 22), .ref (ad_p0 23), .int p0_hasField, .int p0_fieldSize, .ref (ad_p0 26), .ref (ad_p0 27), .ref (ad_p0 28), .ref (ad_p0 29), .ref (ad_p0 30), .ref (ad_p0 31), .ref (ad_p0 32), .int p0_faultNow, .int p0_hasTree, .int p0_treeSize, .ref (ad_p0 36), .ref (ad_p0 37), .ref (ad_p0 38), .ref (ad_p0 39), .ref (ad_p0 40), .ref (ad_p0 41), .ref (ad_p0 42), .int p0_weightCount, .ref (ad_p0 44), .int p0_roundCount, .ref (ad_p0 46), .int p0_setCount, .ref (ad_p0 48), .ref (ad_p0 49)])), ((ad_p0 41), .inl (cZ, 16, .inl p0_isOut)), ((ad_p0 5), .inl (cI, 256, .inl p0_puts)), ((ad_p0 44), .inl (cI, 256, .inl p0_rounds)), ((ad_p0 40), .inl (cJ, 512, .inr (.inl p0_rows))), ((ad_p0 4), .inl (cI, 256, .inl p0_takes))]
abbrev q_X10_rounds (dC : Nat → ClassId) (dI : Nat → Nat → Nat) (cI cJ cZ : ClassId) (h_p0 : Nat) (ad_p0 : Nat → Nat) (p0_places : Int32) (p0_steps : Int32) (p0_pastFirst : Int32) (p0_past : Int32) (p0_goings : Int32) (p0_rowSize : Int32) (p0_ways : Int32) (p0_hasField : Int32) (p0_fieldSize : Int32) (p0_faultNow : Int32) (p0_hasTree : Int32) (p0_treeSize : Int32) (p0_weightCount : Int32) (p0_roundCount : Int32) (p0_setCount : Int32) (p0_isOut : Nat → Int32) (p0_puts : Nat → Int32) (p0_rounds : Nat → Int32) (p0_rows : Nat → Int64) (p0_takes : Nat → Int32) (post : Int32 → (Int32) → (Nat → Int32) → (Nat → Int32) → (Nat → Int64) → Prop) (A : Nat → Prop) : Array Value → State → Outcome → State → Prop := va_Qi (fun r (u : (Int32) × (Nat → Int32) × (Nat → Int32) × (Nat → Int64)) => post r (u.1) (u.2.1) (u.2.2.1) (u.2.2.2)) (fun (u : (Int32) × (Nat → Int32) × (Nat → Int32) × (Nat → Int64)) t => xPost (dC, dI) A (wld_X10_rounds cI cJ cZ h_p0 ad_p0 p0_places p0_steps p0_pastFirst p0_past p0_goings p0_rowSize p0_ways p0_hasField p0_fieldSize p0_faultNow p0_hasTree p0_treeSize p0_weightCount (u.1) p0_setCount (u.2.1) p0_puts (u.2.2.1) (u.2.2.2) p0_takes) t) A
def w_X10_rounds (p0_places : Int32) (p0_roundCount : Int32) (p0_steps : Int32) (p0_isOut : Nat → Int32) (p0_puts : Nat → Int32) (p0_rounds : Nat → Int32) (p0_rows : Nat → Int64) (p0_takes : Nat → Int32) (post : Int32 → (Int32) → (Nat → Int32) → (Nat → Int32) → (Nat → Int64) → Prop) : Prop :=
  w_X10_layRows p0_isOut p0_puts p0_rows p0_takes p0_steps p0_places (0 : Int32) (fun y1 y2 =>
  w_X10_reduce y1 y2 p0_steps p0_places (fun r3 y4 y5 =>
  (¬ r3 = 0 →
    w_X10_gather 256 y4 y5 p0_rounds p0_steps (fun r8 y9 =>
    (post r8 r8 y4 y9 y5))) ∧
  (r3 = 0 →
    (post (-2000000004 : Int32) (0 : Int32) y4 p0_rounds y5))))
set_option maxHeartbeats 4000000 in
set_option maxRecDepth 100000 in
theorem c_X10_rounds {l : Launch} {dC : Nat → ClassId} {dI : Nat → Nat → Nat} {sz : Nat} {cI cJ cZ : ClassId} {h_p0 : Nat} {ad_p0 : Nat → Nat} {p0_places : Int32} {p0_steps : Int32} {p0_pastFirst : Int32} {p0_past : Int32} {p0_goings : Int32} {p0_rowSize : Int32} {p0_ways : Int32} {p0_hasField : Int32} {p0_fieldSize : Int32} {p0_faultNow : Int32} {p0_hasTree : Int32} {p0_treeSize : Int32} {p0_weightCount : Int32} {p0_roundCount : Int32} {p0_setCount : Int32} {p0_isOut : Nat → Int32} {p0_puts : Nat → Int32} {p0_rounds : Nat → Int32} {p0_rows : Nat → Int64} {p0_takes : Nat → Int32}  {post : Int32 → (Int32) → (Nat → Int32) → (Nat → Int32) → (Nat → Int64) → Prop} (hw : w_X10_rounds p0_places p0_roundCount p0_steps p0_isOut p0_puts p0_rounds p0_rows p0_takes post) : Met l yX10_rounds wsX10_rounds ({ frames := 3, cells := 0, slots := 0, locals := 85 }) (va_Pc [.ref h_p0] (xPre (dC, dI) cI cJ cZ (wld_X10_rounds cI cJ cZ h_p0 ad_p0 p0_places p0_steps p0_pastFirst p0_past p0_goings p0_rowSize p0_ways p0_hasField p0_fieldSize p0_faultNow p0_hasTree p0_treeSize p0_weightCount p0_roundCount p0_setCount p0_isOut p0_puts p0_rounds p0_rows p0_takes) sz)) (q_X10_rounds dC dI cI cJ cZ h_p0 ad_p0 p0_places p0_steps p0_pastFirst p0_past p0_goings p0_rowSize p0_ways p0_hasField p0_fieldSize p0_faultNow p0_hasTree p0_treeSize p0_weightCount p0_roundCount p0_setCount p0_isOut p0_puts p0_rounds p0_rows p0_takes post (va_A (wld_X10_rounds cI cJ cZ h_p0 ad_p0 p0_places p0_steps p0_pastFirst p0_past p0_goings p0_rowSize p0_ways p0_hasField p0_fieldSize p0_faultNow p0_hasTree p0_treeSize p0_weightCount p0_roundCount p0_setCount p0_isOut p0_puts p0_rounds p0_rows p0_takes) sz)) 0 0 (va_A (wld_X10_rounds cI cJ cZ h_p0 ad_p0 p0_places p0_steps p0_pastFirst p0_past p0_goings p0_rowSize p0_ways p0_hasField p0_fieldSize p0_faultNow p0_hasTree p0_treeSize p0_weightCount p0_roundCount p0_setCount p0_isOut p0_puts p0_rounds p0_rows p0_takes) sz) := by
  refine x_met (cc := cX10_rounds) (maxL := 1) (ret := (some .int)) (own := RX10) (Qc := fun A => (q_X10_rounds dC dI cI cJ cZ h_p0 ad_p0 p0_places p0_steps p0_pastFirst p0_past p0_goings p0_rowSize p0_ways p0_hasField p0_fieldSize p0_faultNow p0_hasTree p0_treeSize p0_weightCount p0_roundCount p0_setCount p0_isOut p0_puts p0_rounds p0_rows p0_takes post A)) (by decide) rfl rfl (Nat.le_of_ble_eq_true rfl) ?_
  intro p e s m args below meth c A ls E0 hP hD hS hl
  obtain ⟨hx, hb, hr, hml, hown, hts, hlocks, hK, hA, n1, n2⟩ := id E0
  have iX10 : ∀ w ∈ u_ws RX10 TX10 50, w ∈ wsX10_rounds := fun w h => List.mem_cons_of_mem _ (List.mem_append_right _ h)
  have hS0 := hS
  have hl : lv_has ls 1 [(0, .ref h_p0)] := hl
  unfold w_X10_rounds at hw
  obtain ⟨H, hH⟩ : ∃ H, H = s.heap := ⟨_, rfl⟩
  have hS : va_S A s.heap H [] := by rw [hH]; exact hS
  have hP : va_P (dC, dI) vwCl (wld_X10_rounds cI cJ cZ h_p0 ad_p0 p0_places p0_steps p0_pastFirst p0_past p0_goings p0_rowSize p0_ways p0_hasField p0_fieldSize p0_faultNow p0_hasTree p0_treeSize p0_weightCount p0_roundCount p0_setCount p0_isOut p0_puts p0_rounds p0_rows p0_takes) H := by rw [hH]; exact hP
  suffices hG : W p l e ({ frames := 3, cells := 0, slots := 0, locals := 85 }) s m args below meth c H [] 0 0 (MQ below (q_X10_rounds dC dI cI cJ cZ h_p0 ad_p0 p0_places p0_steps p0_pastFirst p0_past p0_goings p0_rowSize p0_ways p0_hasField p0_fieldSize p0_faultNow p0_hasTree p0_treeSize p0_weightCount p0_roundCount p0_setCount p0_isOut p0_puts p0_rounds p0_rows p0_takes post A) args s 0 0 A) (F0 m 0 ls []) by rw [hH] at hG; exact hG
  clear hH
  refine lv_aload_n hx hb dX10_rounds_0 rfl (lv_at hl 0 rfl) ?_
  refine lv_iconst (v := 0) hx hb dX10_rounds_1 (by decide) ?_
  refine va_put (D := (dC, dI)) (ci := 10) (v := .int (0 : Int32)) (ty := .int) (C := RX10) (T := TX10) (N := 50) hx hb hts iX10 tyX10 tyX10_ok nmX10 hown hK hP hD hS 0 rfl rfl 45 (by decide) (hts (.fieldLink RX10 146 "NetHouseModel" "roundCount" "I") (by decide +kernel)) (fun _ h9 => h9) rfl (by decide +kernel) rfl rfl (Nat.le_of_ble_eq_true rfl) dX10_rounds_2 (fun H locs hP hD hS => ?_)
  have hP : va_P (dC, dI) vwCl (wld_X10_rounds cI cJ cZ h_p0 ad_p0 p0_places p0_steps p0_pastFirst p0_past p0_goings p0_rowSize p0_ways p0_hasField p0_fieldSize p0_faultNow p0_hasTree p0_treeSize p0_weightCount (0 : Int32) p0_setCount p0_isOut p0_puts p0_rounds p0_rows p0_takes) H := hP
  have hD : va_D A (wld_X10_rounds cI cJ cZ h_p0 ad_p0 p0_places p0_steps p0_pastFirst p0_past p0_goings p0_rowSize p0_ways p0_hasField p0_fieldSize p0_faultNow p0_hasTree p0_treeSize p0_weightCount (0 : Int32) p0_setCount p0_isOut p0_puts p0_rounds p0_rows p0_takes) := hD
  refine lv_aload_n hx hb dX10_rounds_5 rfl (lv_at hl 0 rfl) ?_
  refine lv_aload_n hx hb dX10_rounds_6 rfl (lv_at hl 0 rfl) ?_
  refine va_get (D := (dC, dI)) (ci := 10) (v := .int p0_steps) (C := RX10) (T := TX10) (N := 50) hx hb hts iX10 hown hK hP 0 rfl rfl 1 (by decide) (hts (.fieldLink RX10 130 "NetHouseModel" "steps" "I") (by decide +kernel)) (fun _ h9 => h9) rfl dX10_rounds_7 ?_
  refine lv_aload_n hx hb dX10_rounds_10 rfl (lv_at hl 0 rfl) ?_
  refine va_get (D := (dC, dI)) (ci := 10) (v := .int p0_places) (C := RX10) (T := TX10) (N := 50) hx hb hts iX10 hown hK hP 0 rfl rfl 0 (by decide) (hts (.fieldLink RX10 127 "NetHouseModel" "places" "I") (by decide +kernel)) (fun _ h9 => h9) rfl dX10_rounds_11 ?_
  refine lv_iconst (v := 0) hx hb dX10_rounds_14 (by decide) ?_
  obtain ⟨hPc, hDc⟩ := x_sub (wc := (wld_X10_layRows cI cJ cZ h_p0 ad_p0 p0_places p0_steps p0_pastFirst p0_past p0_goings p0_rowSize p0_ways p0_hasField p0_fieldSize p0_faultNow p0_hasTree p0_treeSize p0_weightCount (0 : Int32) p0_setCount p0_isOut p0_puts p0_rows p0_takes)) hP hD [0, 1, 2, 4, 5] (n := 6) rfl rfl (by decide +kernel)
  refine x_callv (ws' := fun (u : (Nat → Int32) × (Nat → Int64)) => (wld_X10_rounds cI cJ cZ h_p0 ad_p0 p0_places p0_steps p0_pastFirst p0_past p0_goings p0_rowSize p0_ways p0_hasField p0_fieldSize p0_faultNow p0_hasTree p0_treeSize p0_weightCount (0 : Int32) p0_setCount (u.1) p0_puts p0_rounds (u.2) p0_takes)) hP hD hS hA [0, 1, 2, 4, 5] [3] [1, 2, 3, 0, 4, 5] (n := 6) (k := 5) rfl (fun _ => rfl) rfl (by decide +kernel) (fun _ => rfl) (va_runV (As := [.int p0_steps, .int p0_places, .int (0 : Int32)]) (rest := []) ⟨hx, hb, hml, hown, hts⟩ (c_X10_layRows (l := l) (dC := dC) (dI := dI) (cI := cI) (cJ := cJ) (cZ := cZ) (sz := H.size) (h_p0 := h_p0) (ad_p0 := ad_p0) (p0_places := p0_places) (p0_steps := p0_steps) (p0_pastFirst := p0_pastFirst) (p0_past := p0_past) (p0_goings := p0_goings) (p0_rowSize := p0_rowSize) (p0_ways := p0_ways) (p0_hasField := p0_hasField) (p0_fieldSize := p0_fieldSize) (p0_faultNow := p0_faultNow) (p0_hasTree := p0_hasTree) (p0_treeSize := p0_treeSize) (p0_weightCount := p0_weightCount) (p0_roundCount := (0 : Int32)) (p0_setCount := p0_setCount) (p0_isOut := p0_isOut) (p0_puts := p0_puts) (p0_rows := p0_rows) (p0_takes := p0_takes) hw) (cwV 3 hts gX10_rounds_X10_layRows rfl rfl rfl (by decide +kernel) ⟨Nat.le_of_ble_eq_true rfl, Nat.le_of_ble_eq_true rfl⟩) ⟨xPre_blind, va_recv hK hP (ci := 10) (q0 := 0) rfl rfl, xPre_at hK hPc hDc n1 n2⟩ rfl rfl hl.1 rfl (lv_room (Nat.le_of_ble_eq_true rfl)) dX10_rounds_15 ⟨Nat.zero_le _, Nat.zero_le _⟩) (fun u H locs hw hP hD hS => ?_)
  obtain ⟨y1, y2⟩ := u
  try dsimp only at hw
  have hP : va_P (dC, dI) vwCl (wld_X10_rounds cI cJ cZ h_p0 ad_p0 p0_places p0_steps p0_pastFirst p0_past p0_goings p0_rowSize p0_ways p0_hasField p0_fieldSize p0_faultNow p0_hasTree p0_treeSize p0_weightCount (0 : Int32) p0_setCount y1 p0_puts p0_rounds y2 p0_takes) H := hP
  have hD : va_D A (wld_X10_rounds cI cJ cZ h_p0 ad_p0 p0_places p0_steps p0_pastFirst p0_past p0_goings p0_rowSize p0_ways p0_hasField p0_fieldSize p0_faultNow p0_hasTree p0_treeSize p0_weightCount (0 : Int32) p0_setCount y1 p0_puts p0_rounds y2 p0_takes) := hD
  refine lv_aload_n hx hb dX10_rounds_18 rfl (lv_at hl 0 rfl) ?_
  refine lv_aload_n hx hb dX10_rounds_19 rfl (lv_at hl 0 rfl) ?_
  refine va_get (D := (dC, dI)) (ci := 10) (v := .int p0_steps) (C := RX10) (T := TX10) (N := 50) hx hb hts iX10 hown hK hP 0 rfl rfl 1 (by decide) (hts (.fieldLink RX10 130 "NetHouseModel" "steps" "I") (by decide +kernel)) (fun _ h9 => h9) rfl dX10_rounds_20 ?_
  refine lv_aload_n hx hb dX10_rounds_23 rfl (lv_at hl 0 rfl) ?_
  refine va_get (D := (dC, dI)) (ci := 10) (v := .int p0_places) (C := RX10) (T := TX10) (N := 50) hx hb hts iX10 hown hK hP 0 rfl rfl 0 (by decide) (hts (.fieldLink RX10 127 "NetHouseModel" "places" "I") (by decide +kernel)) (fun _ h9 => h9) rfl dX10_rounds_24 ?_
  obtain ⟨hPc, hDc⟩ := x_sub (wc := (wld_X10_reduce cI cJ cZ h_p0 ad_p0 p0_places p0_steps p0_pastFirst p0_past p0_goings p0_rowSize p0_ways p0_hasField p0_fieldSize p0_faultNow p0_hasTree p0_treeSize p0_weightCount (0 : Int32) p0_setCount y1 y2)) hP hD [0, 1, 4] (n := 6) rfl rfl (by decide +kernel)
  refine x_calli (ws' := fun (u : (Nat → Int32) × (Nat → Int64)) => (wld_X10_rounds cI cJ cZ h_p0 ad_p0 p0_places p0_steps p0_pastFirst p0_past p0_goings p0_rowSize p0_ways p0_hasField p0_fieldSize p0_faultNow p0_hasTree p0_treeSize p0_weightCount (0 : Int32) p0_setCount (u.1) p0_puts p0_rounds (u.2) p0_takes)) hP hD hS hA [0, 1, 4] [2, 3, 5] [3, 4, 0, 1, 5, 2] (n := 6) (k := 3) rfl (fun _ => rfl) rfl (by decide +kernel) (fun _ => rfl) (va_runV (As := [.int p0_steps, .int p0_places]) (rest := []) ⟨hx, hb, hml, hown, hts⟩ (c_X10_reduce (l := l) (dC := dC) (dI := dI) (cI := cI) (cJ := cJ) (cZ := cZ) (sz := H.size) (h_p0 := h_p0) (ad_p0 := ad_p0) (p0_places := p0_places) (p0_steps := p0_steps) (p0_pastFirst := p0_pastFirst) (p0_past := p0_past) (p0_goings := p0_goings) (p0_rowSize := p0_rowSize) (p0_ways := p0_ways) (p0_hasField := p0_hasField) (p0_fieldSize := p0_fieldSize) (p0_faultNow := p0_faultNow) (p0_hasTree := p0_hasTree) (p0_treeSize := p0_treeSize) (p0_weightCount := p0_weightCount) (p0_roundCount := (0 : Int32)) (p0_setCount := p0_setCount) (p0_isOut := y1) (p0_rows := y2) hw) (cwV 2 hts gX10_rounds_X10_reduce rfl rfl rfl (by decide +kernel) ⟨Nat.le_of_ble_eq_true rfl, Nat.le_of_ble_eq_true rfl⟩) ⟨xPre_blind, va_recv hK hP (ci := 10) (q0 := 0) rfl rfl, xPre_at hK hPc hDc n1 n2⟩ rfl rfl hl.1 rfl (lv_room (Nat.le_of_ble_eq_true rfl)) dX10_rounds_27 ⟨Nat.zero_le _, Nat.zero_le _⟩) (fun r3 u H locs hw hP hD hS => ?_)
  obtain ⟨y4, y5⟩ := u
  try dsimp only at hw
  have hP : va_P (dC, dI) vwCl (wld_X10_rounds cI cJ cZ h_p0 ad_p0 p0_places p0_steps p0_pastFirst p0_past p0_goings p0_rowSize p0_ways p0_hasField p0_fieldSize p0_faultNow p0_hasTree p0_treeSize p0_weightCount (0 : Int32) p0_setCount y4 p0_puts p0_rounds y5 p0_takes) H := hP
  have hD : va_D A (wld_X10_rounds cI cJ cZ h_p0 ad_p0 p0_places p0_steps p0_pastFirst p0_past p0_goings p0_rowSize p0_ways p0_hasField p0_fieldSize p0_faultNow p0_hasTree p0_treeSize p0_weightCount (0 : Int32) p0_setCount y4 p0_puts p0_rounds y5 p0_takes) := hD
  refine lv_if_ne (tgt := 36) hx hb dX10_rounds_30 (by decide) (fun c6 => ?_) (fun c7 => ?_)
  · have hw := hw.1 c6
    refine lv_aload_n hx hb dX10_rounds_36 rfl (lv_at hl 0 rfl) ?_
    refine lv_aload_n hx hb dX10_rounds_37 rfl (lv_at hl 0 rfl) ?_
    refine lv_aload_n hx hb dX10_rounds_38 rfl (lv_at hl 0 rfl) ?_
    refine va_get (D := (dC, dI)) (ci := 10) (v := .int p0_steps) (C := RX10) (T := TX10) (N := 50) hx hb hts iX10 hown hK hP 0 rfl rfl 1 (by decide) (hts (.fieldLink RX10 130 "NetHouseModel" "steps" "I") (by decide +kernel)) (fun _ h9 => h9) rfl dX10_rounds_39 ?_
    refine lv_aload_n hx hb dX10_rounds_42 rfl (lv_at hl 0 rfl) ?_
    refine va_get (D := (dC, dI)) (ci := 10) (v := .ref (ad_p0 44)) (C := RX10) (T := TX10) (N := 50) hx hb hts iX10 hown hK hP 0 rfl rfl 44 (by decide) (hts (.fieldLink RX10 112 "NetHouseModel" "rounds" "[I") (by decide +kernel)) (fun _ h9 => h9) rfl dX10_rounds_43 ?_
    obtain ⟨hPc, hDc⟩ := x_sub (wc := (wld_X10_gather cI cJ cZ h_p0 (ad_p0 44) ad_p0 256 p0_places p0_steps p0_pastFirst p0_past p0_goings p0_rowSize p0_ways p0_hasField p0_fieldSize p0_faultNow p0_hasTree p0_treeSize p0_weightCount (0 : Int32) p0_setCount y4 y5 p0_rounds)) hP hD [0, 1, 4, 3] (n := 6) rfl rfl (by decide +kernel)
    refine x_calli (ws' := fun (u : (Nat → Int32)) => (wld_X10_rounds cI cJ cZ h_p0 ad_p0 p0_places p0_steps p0_pastFirst p0_past p0_goings p0_rowSize p0_ways p0_hasField p0_fieldSize p0_faultNow p0_hasTree p0_treeSize p0_weightCount (0 : Int32) p0_setCount y4 p0_puts u y5 p0_takes)) hP hD hS hA [0, 1, 4, 3] [2, 5] [2, 3, 0, 5, 4, 1] (n := 6) (k := 4) rfl (fun _ => rfl) rfl (by decide +kernel) (fun _ => rfl) (va_runV (As := [.int p0_steps, .ref (ad_p0 44)]) (rest := [.ref h_p0]) ⟨hx, hb, hml, hown, hts⟩ (c_X10_gather (l := l) (dC := dC) (dI := dI) (cI := cI) (cJ := cJ) (cZ := cZ) (sz := H.size) (h_p0 := h_p0) (h_p2 := (ad_p0 44)) (ad_p0 := ad_p0) (n_p2 := 256) (p0_places := p0_places) (p0_steps := p0_steps) (p0_pastFirst := p0_pastFirst) (p0_past := p0_past) (p0_goings := p0_goings) (p0_rowSize := p0_rowSize) (p0_ways := p0_ways) (p0_hasField := p0_hasField) (p0_fieldSize := p0_fieldSize) (p0_faultNow := p0_faultNow) (p0_hasTree := p0_hasTree) (p0_treeSize := p0_treeSize) (p0_weightCount := p0_weightCount) (p0_roundCount := (0 : Int32)) (p0_setCount := p0_setCount) (p0_isOut := y4) (p0_rows := y5) (p2 := p0_rounds) hw) (cwV 2 hts gX10_rounds_X10_gather rfl rfl rfl (by decide +kernel) ⟨Nat.le_of_ble_eq_true rfl, Nat.le_of_ble_eq_true rfl⟩) ⟨xPre_blind, va_recv hK hP (ci := 10) (q0 := 0) rfl rfl, xPre_at hK hPc hDc n1 n2⟩ rfl rfl hl.1 rfl (lv_room (Nat.le_of_ble_eq_true rfl)) dX10_rounds_46 ⟨Nat.zero_le _, Nat.zero_le _⟩) (fun r8 u H locs hw hP hD hS => ?_)
    obtain ⟨y9, rfl⟩ : ∃ z, z = u := ⟨_, rfl⟩
    try dsimp only at hw
    have hP : va_P (dC, dI) vwCl (wld_X10_rounds cI cJ cZ h_p0 ad_p0 p0_places p0_steps p0_pastFirst p0_past p0_goings p0_rowSize p0_ways p0_hasField p0_fieldSize p0_faultNow p0_hasTree p0_treeSize p0_weightCount (0 : Int32) p0_setCount y4 p0_puts y9 y5 p0_takes) H := hP
    have hD : va_D A (wld_X10_rounds cI cJ cZ h_p0 ad_p0 p0_places p0_steps p0_pastFirst p0_past p0_goings p0_rowSize p0_ways p0_hasField p0_fieldSize p0_faultNow p0_hasTree p0_treeSize p0_weightCount (0 : Int32) p0_setCount y4 p0_puts y9 y5 p0_takes) := hD
    refine va_put (D := (dC, dI)) (ci := 10) (v := .int r8) (ty := .int) (C := RX10) (T := TX10) (N := 50) hx hb hts iX10 tyX10 tyX10_ok nmX10 hown hK hP hD hS 0 rfl rfl 45 (by decide) (hts (.fieldLink RX10 146 "NetHouseModel" "roundCount" "I") (by decide +kernel)) (fun _ h9 => h9) rfl (by decide +kernel) rfl rfl (Nat.le_of_ble_eq_true rfl) dX10_rounds_49 (fun H locs hP hD hS => ?_)
    have hP : va_P (dC, dI) vwCl (wld_X10_rounds cI cJ cZ h_p0 ad_p0 p0_places p0_steps p0_pastFirst p0_past p0_goings p0_rowSize p0_ways p0_hasField p0_fieldSize p0_faultNow p0_hasTree p0_treeSize p0_weightCount r8 p0_setCount y4 p0_puts y9 y5 p0_takes) H := hP
    have hD : va_D A (wld_X10_rounds cI cJ cZ h_p0 ad_p0 p0_places p0_steps p0_pastFirst p0_past p0_goings p0_rowSize p0_ways p0_hasField p0_fieldSize p0_faultNow p0_hasTree p0_treeSize p0_weightCount r8 p0_setCount y4 p0_puts y9 y5 p0_takes) := hD
    refine lv_aload_n hx hb dX10_rounds_52 rfl (lv_at hl 0 rfl) ?_
    refine va_get (D := (dC, dI)) (ci := 10) (v := .int r8) (C := RX10) (T := TX10) (N := 50) hx hb hts iX10 hown hK hP 0 rfl rfl 45 (by decide) (hts (.fieldLink RX10 146 "NetHouseModel" "roundCount" "I") (by decide +kernel)) (fun _ h9 => h9) rfl dX10_rounds_53 ?_
    exact x_iret (w1 := fun (u : (Int32) × (Nat → Int32) × (Nat → Int32) × (Nat → Int64)) => (wld_X10_rounds cI cJ cZ h_p0 ad_p0 p0_places p0_steps p0_pastFirst p0_past p0_goings p0_rowSize p0_ways p0_hasField p0_fieldSize p0_faultNow p0_hasTree p0_treeSize p0_weightCount (u.1) p0_setCount (u.2.1) p0_puts (u.2.2.1) (u.2.2.2) p0_takes)) hx hb hr hlocks (r8, y4, y9, y5) hw hP hD hS dX10_rounds_56
  · have hw := hw.2 c7
    refine lv_ldc (v := -2000000004) hx hb hown (hts (.constant RX10 251 (-2000000004)) (by decide +kernel)) dX10_rounds_33 ?_
    exact x_iret (w1 := fun (u : (Int32) × (Nat → Int32) × (Nat → Int32) × (Nat → Int64)) => (wld_X10_rounds cI cJ cZ h_p0 ad_p0 p0_places p0_steps p0_pastFirst p0_past p0_goings p0_rowSize p0_ways p0_hasField p0_fieldSize p0_faultNow p0_hasTree p0_treeSize p0_weightCount (u.1) p0_setCount (u.2.1) p0_puts (u.2.2.1) (u.2.2.2) p0_takes)) hx hb hr hlocks ((0 : Int32), y4, p0_rounds, y5) hw hP hD hS dX10_rounds_35
abbrev wld_X10_round (cI cJ cZ : ClassId) (h_p0 : Nat) (ad_p0 : Nat → Nat) (p0_places : Int32) (p0_steps : Int32) (p0_pastFirst : Int32) (p0_past : Int32) (p0_goings : Int32) (p0_rowSize : Int32) (p0_ways : Int32) (p0_hasField : Int32) (p0_fieldSize : Int32) (p0_faultNow : Int32) (p0_hasTree : Int32) (p0_treeSize : Int32) (p0_weightCount : Int32) (p0_roundCount : Int32) (p0_setCount : Int32) (p0_rounds : Nat → Int32) : va_W := [(h_p0, .inr (10, [.int p0_places, .int p0_steps, .ref (ad_p0 2), .ref (ad_p0 3), .ref (ad_p0 4), .ref (ad_p0 5), .ref (ad_p0 6), .ref (ad_p0 7), .ref (ad_p0 8), .ref (ad_p0 9), .ref (ad_p0 10), .ref (ad_p0 11), .ref (ad_p0 12), .ref (ad_p0 13), .ref (ad_p0 14), .int p0_pastFirst, .int p0_past, .int p0_goings, .int p0_rowSize, .ref (ad_p0 19), .ref (ad_p0 20), .int p0_ways, .ref (ad_p0 22), .ref (ad_p0 23), .int p0_hasField, .int p0_fieldSize, .ref (ad_p0 26), .ref (ad_p0 27), .ref (ad_p0 28), .ref (ad_p0 29), .ref (ad_p0 30), .ref (ad_p0 31), .ref (ad_p0 32), .int p0_faultNow, .int p0_hasTree, .int p0_treeSize, .ref (ad_p0 36), .ref (ad_p0 37), .ref (ad_p0 38), .ref (ad_p0 39), .ref (ad_p0 40), .ref (ad_p0 41), .ref (ad_p0 42), .int p0_weightCount, .ref (ad_p0 44), .int p0_roundCount, .ref (ad_p0 46), .int p0_setCount, .ref (ad_p0 48), .ref (ad_p0 49)])), ((ad_p0 44), .inl (cI, 256, .inl p0_rounds))]
abbrev q_X10_round (dC : Nat → ClassId) (dI : Nat → Nat → Nat) (cI cJ cZ : ClassId) (h_p0 : Nat) (ad_p0 : Nat → Nat) (p0_places : Int32) (p0_steps : Int32) (p0_pastFirst : Int32) (p0_past : Int32) (p0_goings : Int32) (p0_rowSize : Int32) (p0_ways : Int32) (p0_hasField : Int32) (p0_fieldSize : Int32) (p0_faultNow : Int32) (p0_hasTree : Int32) (p0_treeSize : Int32) (p0_weightCount : Int32) (p0_roundCount : Int32) (p0_setCount : Int32) (p0_rounds : Nat → Int32) (post : Int32 → Prop) (A : Nat → Prop) : Array Value → State → Outcome → State → Prop := va_Qi (fun r (u : Unit) => post r ) (fun (u : Unit) t => xPost (dC, dI) A (wld_X10_round cI cJ cZ h_p0 ad_p0 p0_places p0_steps p0_pastFirst p0_past p0_goings p0_rowSize p0_ways p0_hasField p0_fieldSize p0_faultNow p0_hasTree p0_treeSize p0_weightCount p0_roundCount p0_setCount p0_rounds) t) A
def w_X10_round (p0_roundCount : Int32) (p0_steps : Int32) (p0_rounds : Nat → Int32) (a1 : Int32) (a2 : Int32) (post : Int32 → Prop) : Prop :=
  w_X10_isIn a1 (0 : Int32) (p0_roundCount - (1 : Int32)) (fun r1 =>
  (r1 = 0 →
    (post (-2000000001 : Int32))) ∧
  (¬ r1 = 0 →
    w_X10_isStep p0_steps a2 (fun r4 =>
    (r4 = 0 →
      (post (-2000000001 : Int32))) ∧
    (¬ r4 = 0 →
      vp_in (((16 : Int32) * a1) + a2) 256 ∧
      (post (p0_rounds (((16 : Int32) * a1) + a2).toNatClampNeg))))))
set_option maxHeartbeats 4000000 in
set_option maxRecDepth 100000 in
theorem c_X10_round {l : Launch} {dC : Nat → ClassId} {dI : Nat → Nat → Nat} {sz : Nat} {cI cJ cZ : ClassId} {h_p0 : Nat} {ad_p0 : Nat → Nat} {p0_places : Int32} {p0_steps : Int32} {p0_pastFirst : Int32} {p0_past : Int32} {p0_goings : Int32} {p0_rowSize : Int32} {p0_ways : Int32} {p0_hasField : Int32} {p0_fieldSize : Int32} {p0_faultNow : Int32} {p0_hasTree : Int32} {p0_treeSize : Int32} {p0_weightCount : Int32} {p0_roundCount : Int32} {p0_setCount : Int32} {p0_rounds : Nat → Int32} {a1 : Int32} {a2 : Int32} {post : Int32 → Prop} (hw : w_X10_round p0_roundCount p0_steps p0_rounds a1 a2 post) : Met l yX10_round wsX10_round ({ frames := 1, cells := 0, slots := 0, locals := 22 }) (va_Pc [.ref h_p0, .int a1, .int a2] (xPre (dC, dI) cI cJ cZ (wld_X10_round cI cJ cZ h_p0 ad_p0 p0_places p0_steps p0_pastFirst p0_past p0_goings p0_rowSize p0_ways p0_hasField p0_fieldSize p0_faultNow p0_hasTree p0_treeSize p0_weightCount p0_roundCount p0_setCount p0_rounds) sz)) (q_X10_round dC dI cI cJ cZ h_p0 ad_p0 p0_places p0_steps p0_pastFirst p0_past p0_goings p0_rowSize p0_ways p0_hasField p0_fieldSize p0_faultNow p0_hasTree p0_treeSize p0_weightCount p0_roundCount p0_setCount p0_rounds post (va_A (wld_X10_round cI cJ cZ h_p0 ad_p0 p0_places p0_steps p0_pastFirst p0_past p0_goings p0_rowSize p0_ways p0_hasField p0_fieldSize p0_faultNow p0_hasTree p0_treeSize p0_weightCount p0_roundCount p0_setCount p0_rounds) sz)) 0 0 (va_A (wld_X10_round cI cJ cZ h_p0 ad_p0 p0_places p0_steps p0_pastFirst p0_past p0_goings p0_rowSize p0_ways p0_hasField p0_fieldSize p0_faultNow p0_hasTree p0_treeSize p0_weightCount p0_roundCount p0_setCount p0_rounds) sz) := by
  refine x_met (cc := cX10_round) (maxL := 3) (ret := (some .int)) (own := RX10) (Qc := fun A => (q_X10_round dC dI cI cJ cZ h_p0 ad_p0 p0_places p0_steps p0_pastFirst p0_past p0_goings p0_rowSize p0_ways p0_hasField p0_fieldSize p0_faultNow p0_hasTree p0_treeSize p0_weightCount p0_roundCount p0_setCount p0_rounds post A)) (by decide) rfl rfl (Nat.le_of_ble_eq_true rfl) ?_
  intro p e s m args below meth c A ls E0 hP hD hS hl
  obtain ⟨hx, hb, hr, hml, hown, hts, hlocks, hK, hA, n1, n2⟩ := id E0
  have iX10 : ∀ w ∈ u_ws RX10 TX10 50, w ∈ wsX10_round := fun w h => List.mem_cons_of_mem _ (List.mem_append_right _ h)
  have hS0 := hS
  have hl : lv_has ls 3 [(0, .ref h_p0), (1, .int a1), (2, .int a2)] := hl
  unfold w_X10_round at hw
  obtain ⟨H, hH⟩ : ∃ H, H = s.heap := ⟨_, rfl⟩
  have hS : va_S A s.heap H [] := by rw [hH]; exact hS
  have hP : va_P (dC, dI) vwCl (wld_X10_round cI cJ cZ h_p0 ad_p0 p0_places p0_steps p0_pastFirst p0_past p0_goings p0_rowSize p0_ways p0_hasField p0_fieldSize p0_faultNow p0_hasTree p0_treeSize p0_weightCount p0_roundCount p0_setCount p0_rounds) H := by rw [hH]; exact hP
  suffices hG : W p l e ({ frames := 1, cells := 0, slots := 0, locals := 22 }) s m args below meth c H [] 0 0 (MQ below (q_X10_round dC dI cI cJ cZ h_p0 ad_p0 p0_places p0_steps p0_pastFirst p0_past p0_goings p0_rowSize p0_ways p0_hasField p0_fieldSize p0_faultNow p0_hasTree p0_treeSize p0_weightCount p0_roundCount p0_setCount p0_rounds post A) args s 0 0 A) (F0 m 0 ls []) by rw [hH] at hG; exact hG
  clear hH
  refine lv_iload_n hx hb dX10_round_0 rfl (lv_at hl 1 rfl) ?_
  refine lv_iconst (v := 0) hx hb dX10_round_1 (by decide) ?_
  refine lv_aload_n hx hb dX10_round_2 rfl (lv_at hl 0 rfl) ?_
  refine va_get (D := (dC, dI)) (ci := 10) (v := .int p0_roundCount) (C := RX10) (T := TX10) (N := 50) hx hb hts iX10 hown hK hP 0 rfl rfl 45 (by decide) (hts (.fieldLink RX10 146 "NetHouseModel" "roundCount" "I") (by decide +kernel)) (fun _ h9 => h9) rfl dX10_round_3 ?_
  refine lv_iconst (v := 1) hx hb dX10_round_6 (by decide) ?_
  refine lv_isub hx hb dX10_round_7 ?_
  obtain ⟨hPc, hDc⟩ := x_sub (wc := (wld_X10_isIn cI cJ cZ )) hP hD [] (n := 2) rfl rfl (by decide +kernel)
  refine x_calli (ws' := fun (u : Unit) => (wld_X10_round cI cJ cZ h_p0 ad_p0 p0_places p0_steps p0_pastFirst p0_past p0_goings p0_rowSize p0_ways p0_hasField p0_fieldSize p0_faultNow p0_hasTree p0_treeSize p0_weightCount p0_roundCount p0_setCount p0_rounds)) hP hD hS hA [] [0, 1] [0, 1] (n := 2) (k := 0) rfl (fun _ => rfl) rfl (by decide +kernel) (fun _ => rfl) (va_runS (As := [.int a1, .int (0 : Int32), .int (p0_roundCount - (1 : Int32))]) (rest := []) ⟨hx, hb, hml, hown, hts⟩ (c_X10_isIn (l := l) (dC := dC) (dI := dI) (cI := cI) (cJ := cJ) (cZ := cZ) (sz := H.size) hw) (va_cwS 3 hts gX10_round_X10_isIn rfl rfl rfl (by decide +kernel) ⟨Nat.le_of_ble_eq_true rfl, Nat.le_of_ble_eq_true rfl⟩) ⟨xPre_blind, xPre_at hK hPc hDc n1 n2⟩ rfl rfl hl.1 rfl (lv_room (Nat.le_of_ble_eq_true rfl)) dX10_round_8 ⟨Nat.zero_le _, Nat.zero_le _⟩) (fun r1 u H locs hw hP hD hS => ?_)
  try dsimp only at hw
  have hP : va_P (dC, dI) vwCl (wld_X10_round cI cJ cZ h_p0 ad_p0 p0_places p0_steps p0_pastFirst p0_past p0_goings p0_rowSize p0_ways p0_hasField p0_fieldSize p0_faultNow p0_hasTree p0_treeSize p0_weightCount p0_roundCount p0_setCount p0_rounds) H := hP
  have hD : va_D A (wld_X10_round cI cJ cZ h_p0 ad_p0 p0_places p0_steps p0_pastFirst p0_past p0_goings p0_rowSize p0_ways p0_hasField p0_fieldSize p0_faultNow p0_hasTree p0_treeSize p0_weightCount p0_roundCount p0_setCount p0_rounds) := hD
  refine lv_if_eq (tgt := 36) hx hb dX10_round_11 (by decide) (fun c2 => ?_) (fun c3 => ?_)
  · have hw := hw.1 c2
    refine lv_ldc (v := -2000000001) hx hb hown (hts (.constant RX10 159 (-2000000001)) (by decide +kernel)) dX10_round_36 ?_
    exact x_iret (w1 := fun (u : Unit) => (wld_X10_round cI cJ cZ h_p0 ad_p0 p0_places p0_steps p0_pastFirst p0_past p0_goings p0_rowSize p0_ways p0_hasField p0_fieldSize p0_faultNow p0_hasTree p0_treeSize p0_weightCount p0_roundCount p0_setCount p0_rounds)) hx hb hr hlocks () hw hP hD hS dX10_round_38
  · have hw := hw.2 c3
    refine lv_aload_n hx hb dX10_round_14 rfl (lv_at hl 0 rfl) ?_
    refine lv_iload_n hx hb dX10_round_15 rfl (lv_at hl 2 rfl) ?_
    obtain ⟨hPc, hDc⟩ := x_sub (wc := (wld_X10_isStep cI cJ cZ h_p0 ad_p0 p0_places p0_steps p0_pastFirst p0_past p0_goings p0_rowSize p0_ways p0_hasField p0_fieldSize p0_faultNow p0_hasTree p0_treeSize p0_weightCount p0_roundCount p0_setCount)) hP hD [0] (n := 2) rfl rfl (by decide +kernel)
    refine x_calli (ws' := fun (u : Unit) => (wld_X10_round cI cJ cZ h_p0 ad_p0 p0_places p0_steps p0_pastFirst p0_past p0_goings p0_rowSize p0_ways p0_hasField p0_fieldSize p0_faultNow p0_hasTree p0_treeSize p0_weightCount p0_roundCount p0_setCount p0_rounds)) hP hD hS hA [0] [1] [1, 0] (n := 2) (k := 1) rfl (fun _ => rfl) rfl (by decide +kernel) (fun _ => rfl) (va_runV (As := [.int a2]) (rest := []) ⟨hx, hb, hml, hown, hts⟩ (c_X10_isStep (l := l) (dC := dC) (dI := dI) (cI := cI) (cJ := cJ) (cZ := cZ) (sz := H.size) (h_p0 := h_p0) (ad_p0 := ad_p0) (p0_places := p0_places) (p0_steps := p0_steps) (p0_pastFirst := p0_pastFirst) (p0_past := p0_past) (p0_goings := p0_goings) (p0_rowSize := p0_rowSize) (p0_ways := p0_ways) (p0_hasField := p0_hasField) (p0_fieldSize := p0_fieldSize) (p0_faultNow := p0_faultNow) (p0_hasTree := p0_hasTree) (p0_treeSize := p0_treeSize) (p0_weightCount := p0_weightCount) (p0_roundCount := p0_roundCount) (p0_setCount := p0_setCount) hw) (cwV 1 hts gX10_round_X10_isStep rfl rfl rfl (by decide +kernel) ⟨Nat.le_of_ble_eq_true rfl, Nat.le_of_ble_eq_true rfl⟩) ⟨xPre_blind, va_recv hK hP (ci := 10) (q0 := 0) rfl rfl, xPre_at hK hPc hDc n1 n2⟩ rfl rfl hl.1 rfl (lv_room (Nat.le_of_ble_eq_true rfl)) dX10_round_16 ⟨Nat.zero_le _, Nat.zero_le _⟩) (fun r4 u H locs hw hP hD hS => ?_)
    try dsimp only at hw
    have hP : va_P (dC, dI) vwCl (wld_X10_round cI cJ cZ h_p0 ad_p0 p0_places p0_steps p0_pastFirst p0_past p0_goings p0_rowSize p0_ways p0_hasField p0_fieldSize p0_faultNow p0_hasTree p0_treeSize p0_weightCount p0_roundCount p0_setCount p0_rounds) H := hP
    have hD : va_D A (wld_X10_round cI cJ cZ h_p0 ad_p0 p0_places p0_steps p0_pastFirst p0_past p0_goings p0_rowSize p0_ways p0_hasField p0_fieldSize p0_faultNow p0_hasTree p0_treeSize p0_weightCount p0_roundCount p0_setCount p0_rounds) := hD
    refine lv_if_eq (tgt := 36) hx hb dX10_round_19 (by decide) (fun c5 => ?_) (fun c6 => ?_)
    · have hw := hw.1 c5
      refine lv_ldc (v := -2000000001) hx hb hown (hts (.constant RX10 159 (-2000000001)) (by decide +kernel)) dX10_round_36 ?_
      exact x_iret (w1 := fun (u : Unit) => (wld_X10_round cI cJ cZ h_p0 ad_p0 p0_places p0_steps p0_pastFirst p0_past p0_goings p0_rowSize p0_ways p0_hasField p0_fieldSize p0_faultNow p0_hasTree p0_treeSize p0_weightCount p0_roundCount p0_setCount p0_rounds)) hx hb hr hlocks () hw hP hD hS dX10_round_38
    · have hw := hw.2 c6
      refine lv_aload_n hx hb dX10_round_22 rfl (lv_at hl 0 rfl) ?_
      refine va_get (D := (dC, dI)) (ci := 10) (v := .ref (ad_p0 44)) (C := RX10) (T := TX10) (N := 50) hx hb hts iX10 hown hK hP 0 rfl rfl 44 (by decide) (hts (.fieldLink RX10 112 "NetHouseModel" "rounds" "[I") (by decide +kernel)) (fun _ h9 => h9) rfl dX10_round_23 ?_
      refine lv_bipush (v := 16) hx hb dX10_round_26 (by decide) ?_
      refine lv_iload_n hx hb dX10_round_28 rfl (lv_at hl 1 rfl) ?_
      refine lv_imul hx hb dX10_round_29 ?_
      refine lv_iload_n hx hb dX10_round_30 rfl (lv_at hl 2 rfl) ?_
      refine lv_iadd hx hb dX10_round_31 ?_
      refine va_iald hx hb hK hP 1 0 rfl rfl hw.1 dX10_round_32 ?_
      have hw := hw.2
      refine lv_goto (tgt := 38) hx hb dX10_round_33 (by decide) ?_
      exact x_iret (w1 := fun (u : Unit) => (wld_X10_round cI cJ cZ h_p0 ad_p0 p0_places p0_steps p0_pastFirst p0_past p0_goings p0_rowSize p0_ways p0_hasField p0_fieldSize p0_faultNow p0_hasTree p0_treeSize p0_weightCount p0_roundCount p0_setCount p0_rounds)) hx hb hr hlocks () hw hP hD hS dX10_round_38
abbrev wld_X10_keeps (cI cJ cZ : ClassId) (h_p0 : Nat) (ad_p0 : Nat → Nat) (p0_places : Int32) (p0_steps : Int32) (p0_pastFirst : Int32) (p0_past : Int32) (p0_goings : Int32) (p0_rowSize : Int32) (p0_ways : Int32) (p0_hasField : Int32) (p0_fieldSize : Int32) (p0_faultNow : Int32) (p0_hasTree : Int32) (p0_treeSize : Int32) (p0_weightCount : Int32) (p0_roundCount : Int32) (p0_setCount : Int32) (p0_puts : Nat → Int32) (p0_row : Nat → Int32) (p0_takes : Nat → Int32) : va_W := [(h_p0, .inr (10, [.int p0_places, .int p0_steps, .ref (ad_p0 2), .ref (ad_p0 3), .ref (ad_p0 4), .ref (ad_p0 5), .ref (ad_p0 6), .ref (ad_p0 7), .ref (ad_p0 8), .ref (ad_p0 9), .ref (ad_p0 10), .ref (ad_p0 11), .ref (ad_p0 12), .ref (ad_p0 13), .ref (ad_p0 14), .int p0_pastFirst, .int p0_past, .int p0_goings, .int p0_rowSize, .ref (ad_p0 19), .ref (ad_p0 20), .int p0_ways, .ref (ad_p0 22), .ref (ad_p0 23), .int p0_hasField, .int p0_fieldSize, .ref (ad_p0 26), .ref (ad_p0 27), .ref (ad_p0 28), .ref (ad_p0 29), .ref (ad_p0 30), .ref (ad_p0 31), .ref (ad_p0 32), .int p0_faultNow, .int p0_hasTree, .int p0_treeSize, .ref (ad_p0 36), .ref (ad_p0 37), .ref (ad_p0 38), .ref (ad_p0 39), .ref (ad_p0 40), .ref (ad_p0 41), .ref (ad_p0 42), .int p0_weightCount, .ref (ad_p0 44), .int p0_roundCount, .ref (ad_p0 46), .int p0_setCount, .ref (ad_p0 48), .ref (ad_p0 49)])), ((ad_p0 5), .inl (cI, 256, .inl p0_puts)), ((ad_p0 19), .inl (cI, 16, .inl p0_row)), ((ad_p0 4), .inl (cI, 256, .inl p0_takes))]
abbrev q_X10_keeps (dC : Nat → ClassId) (dI : Nat → Nat → Nat) (cI cJ cZ : ClassId) (h_p0 : Nat) (ad_p0 : Nat → Nat) (p0_places : Int32) (p0_steps : Int32) (p0_pastFirst : Int32) (p0_past : Int32) (p0_goings : Int32) (p0_rowSize : Int32) (p0_ways : Int32) (p0_hasField : Int32) (p0_fieldSize : Int32) (p0_faultNow : Int32) (p0_hasTree : Int32) (p0_treeSize : Int32) (p0_weightCount : Int32) (p0_roundCount : Int32) (p0_setCount : Int32) (p0_puts : Nat → Int32) (p0_row : Nat → Int32) (p0_takes : Nat → Int32) (post : Int32 → Prop) (A : Nat → Prop) : Array Value → State → Outcome → State → Prop := va_Qi (fun r (u : Unit) => post r ) (fun (u : Unit) t => xPost (dC, dI) A (wld_X10_keeps cI cJ cZ h_p0 ad_p0 p0_places p0_steps p0_pastFirst p0_past p0_goings p0_rowSize p0_ways p0_hasField p0_fieldSize p0_faultNow p0_hasTree p0_treeSize p0_weightCount p0_roundCount p0_setCount p0_puts p0_row p0_takes) t) A
def w_X10_keeps_L17b (v1 : Int32) (v2 : Int32) (p0_places : Int32) (p0_rowSize : Int32) (p0_steps : Int32) (p0_puts : Nat → Int32) (p0_row : Nat → Int32) (p0_takes : Nat → Int32) (post : Int32 → Prop) (K : (Int64) → (Int32) → Prop) (rec : (Int64) → (Int32) → Prop) (v3 : Int64) (v5 : Int32) : Prop :=
    (p0_places ≤ v5 →
      K v3 v5) ∧
    (¬ p0_places ≤ v5 →
      w_X10_told p0_rowSize p0_row v5 (fun r5 =>
      w_X10_change p0_puts p0_takes v2 v5 (fun r6 =>
      ∀ x7 : Int64, x7 = (v3 + (r5.toInt64 * r6.toInt64)) →
      ∀ x8 : Int32, x8 = v5 + (1 : Int32) →
      rec x7 x8)))
def w_X10_keeps_L17 (v1 : Int32) (v2 : Int32) (p0_places : Int32) (p0_rowSize : Int32) (p0_steps : Int32) (p0_puts : Nat → Int32) (p0_row : Nat → Int32) (p0_takes : Nat → Int32) (post : Int32 → Prop) (K : (Int64) → (Int32) → Prop) : Nat → (Int64) → (Int32) → Prop
  | 0, _, _ => False
  | n + 1, v3, v5 => w_X10_keeps_L17b v1 v2 p0_places p0_rowSize p0_steps p0_puts p0_row p0_takes post K (w_X10_keeps_L17 v1 v2 p0_places p0_rowSize p0_steps p0_puts p0_row p0_takes post K n) v3 v5
def w_X10_keeps_L4b (p0_places : Int32) (p0_rowSize : Int32) (p0_steps : Int32) (p0_puts : Nat → Int32) (p0_row : Nat → Int32) (p0_takes : Nat → Int32) (post : Int32 → Prop) (K : (Int32) → (Int32) → Prop) (rec : (Int32) → (Int32) → Prop) (v1 : Int32) (v2 : Int32) : Prop :=
    (p0_steps ≤ v2 →
      K v1 v2) ∧
    (¬ p0_steps ≤ v2 →
      ∃ n : Nat, w_X10_keeps_L17 v1 v2 p0_places p0_rowSize p0_steps p0_puts p0_row p0_takes post (fun v10 v11 =>
          (v1 = 0 →
            ∀ x14 : Int32, x14 = v2 + (1 : Int32) →
            rec (0 : Int32) x14) ∧
          (¬ v1 = 0 →
            (¬ (lg_cmp v10 (0 : Int64)) = 0 →
              ∀ x17 : Int32, x17 = v2 + (1 : Int32) →
              rec (0 : Int32) x17) ∧
            ((lg_cmp v10 (0 : Int64)) = 0 →
              ∀ x18 : Int32, x18 = v2 + (1 : Int32) →
              rec (1 : Int32) x18))) n (0 : Int64) (0 : Int32))
def w_X10_keeps_L4 (p0_places : Int32) (p0_rowSize : Int32) (p0_steps : Int32) (p0_puts : Nat → Int32) (p0_row : Nat → Int32) (p0_takes : Nat → Int32) (post : Int32 → Prop) (K : (Int32) → (Int32) → Prop) : Nat → (Int32) → (Int32) → Prop
  | 0, _, _ => False
  | n + 1, v1, v2 => w_X10_keeps_L4b p0_places p0_rowSize p0_steps p0_puts p0_row p0_takes post K (w_X10_keeps_L4 p0_places p0_rowSize p0_steps p0_puts p0_row p0_takes post K n) v1 v2
def w_X10_keeps (p0_places : Int32) (p0_rowSize : Int32) (p0_steps : Int32) (p0_puts : Nat → Int32) (p0_row : Nat → Int32) (p0_takes : Nat → Int32) (post : Int32 → Prop) : Prop :=
  ∃ n : Nat, w_X10_keeps_L4 p0_places p0_rowSize p0_steps p0_puts p0_row p0_takes post (fun v20 v21 =>
      (v20 = 0 →
        (post (0 : Int32))) ∧
      (¬ v20 = 0 →
        (post (1 : Int32)))) n (1 : Int32) (0 : Int32)
set_option maxHeartbeats 4000000 in
set_option maxRecDepth 100000 in
theorem c_X10_keeps_L17 {p : Program} {l : Launch} {e : Env} {s : State} {m : MethodId} {args : Array Value} {below : List Frame} {meth : Method} {c : Code} {dC : Nat → ClassId} {dI : Nat → Nat → Nat} {A : Nat → Prop} {cI cJ cZ : ClassId} {h_p0 : Nat} {ad_p0 : Nat → Nat} {p0_places : Int32} {p0_steps : Int32} {p0_pastFirst : Int32} {p0_past : Int32} {p0_goings : Int32} {p0_rowSize : Int32} {p0_ways : Int32} {p0_hasField : Int32} {p0_fieldSize : Int32} {p0_faultNow : Int32} {p0_hasTree : Int32} {p0_treeSize : Int32} {p0_weightCount : Int32} {p0_roundCount : Int32} {p0_setCount : Int32} {p0_puts : Nat → Int32} {p0_row : Nat → Int32} {p0_takes : Nat → Int32} {v1 : Int32} {v2 : Int32}  {post : Int32 → Prop} {K : (Int64) → (Int32) → Prop} (E0 : xEnv p s m args meth c cX10_keeps (some .int) 6 RX10 wsX10_keeps (dC, dI) cI cJ cZ A) (hk : ∀ (v3 : Int64) (v5 : Int32) (H : Heap) (locs : List Loc) (ls : Array Slot), K v3 v5 → va_P (dC, dI) vwCl (wld_X10_keeps cI cJ cZ h_p0 ad_p0 p0_places p0_steps p0_pastFirst p0_past p0_goings p0_rowSize p0_ways p0_hasField p0_fieldSize p0_faultNow p0_hasTree p0_treeSize p0_weightCount p0_roundCount p0_setCount p0_puts p0_row p0_takes) H → va_D A (wld_X10_keeps cI cJ cZ h_p0 ad_p0 p0_places p0_steps p0_pastFirst p0_past p0_goings p0_rowSize p0_ways p0_hasField p0_fieldSize p0_faultNow p0_hasTree p0_treeSize p0_weightCount p0_roundCount p0_setCount p0_puts p0_row p0_takes) → va_S A s.heap H locs → lv_has ls 6 [(0, .ref h_p0), (1, .int v1), (2, .int v2), (3, .long v3)] → W p l e ({ frames := 1, cells := 0, slots := 0, locals := 22 }) s m args below meth c H locs 0 0 (MQ below (q_X10_keeps dC dI cI cJ cZ h_p0 ad_p0 p0_places p0_steps p0_pastFirst p0_past p0_goings p0_rowSize p0_ways p0_hasField p0_fieldSize p0_faultNow p0_hasTree p0_treeSize p0_weightCount p0_roundCount p0_setCount p0_puts p0_row p0_takes post A) args s 0 0 A) (F0 m 51 ls [])) : ∀ (n : Nat) (v3 : Int64) (v5 : Int32), w_X10_keeps_L17 v1 v2 p0_places p0_rowSize p0_steps p0_puts p0_row p0_takes post K n v3 v5 → ∀ (H : Heap) (locs : List Loc) (ls : Array Slot), va_P (dC, dI) vwCl (wld_X10_keeps cI cJ cZ h_p0 ad_p0 p0_places p0_steps p0_pastFirst p0_past p0_goings p0_rowSize p0_ways p0_hasField p0_fieldSize p0_faultNow p0_hasTree p0_treeSize p0_weightCount p0_roundCount p0_setCount p0_puts p0_row p0_takes) H → va_D A (wld_X10_keeps cI cJ cZ h_p0 ad_p0 p0_places p0_steps p0_pastFirst p0_past p0_goings p0_rowSize p0_ways p0_hasField p0_fieldSize p0_faultNow p0_hasTree p0_treeSize p0_weightCount p0_roundCount p0_setCount p0_puts p0_row p0_takes) → va_S A s.heap H locs → lv_has ls 6 [(0, .ref h_p0), (1, .int v1), (2, .int v2), (3, .long v3), (5, .int v5)] → W p l e ({ frames := 1, cells := 0, slots := 0, locals := 22 }) s m args below meth c H locs 0 0 (MQ below (q_X10_keeps dC dI cI cJ cZ h_p0 ad_p0 p0_places p0_steps p0_pastFirst p0_past p0_goings p0_rowSize p0_ways p0_hasField p0_fieldSize p0_faultNow p0_hasTree p0_treeSize p0_weightCount p0_roundCount p0_setCount p0_puts p0_row p0_takes post A) args s 0 0 A) (F0 m 17 ls []) := by
  obtain ⟨hx, hb, hr, hml, hown, hts, hlocks, hK, hA, n1, n2⟩ := id E0
  have iX10 : ∀ w ∈ u_ws RX10 TX10 50, w ∈ wsX10_keeps := fun w h => List.mem_cons_of_mem _ (List.mem_append_right _ h)
  intro n
  induction n with
  | zero => intro v3 v5 hw; exact hw.elim
  | succ n ih =>
    intro v3 v5 hw H locs ls hP hD hS hl
    have hw : w_X10_keeps_L17b v1 v2 p0_places p0_rowSize p0_steps p0_puts p0_row p0_takes post K (w_X10_keeps_L17 v1 v2 p0_places p0_rowSize p0_steps p0_puts p0_row p0_takes post K n) v3 v5 := hw
    unfold w_X10_keeps_L17b at hw
    refine lv_iload hx hb dX10_keeps_17 (lv_at hl 4 rfl) ?_
    refine lv_aload_n hx hb dX10_keeps_19 rfl (lv_at hl 0 rfl) ?_
    refine va_get (D := (dC, dI)) (ci := 10) (v := .int p0_places) (C := RX10) (T := TX10) (N := 50) hx hb hts iX10 hown hK hP 0 rfl rfl 0 (by decide) (hts (.fieldLink RX10 127 "NetHouseModel" "places" "I") (by decide +kernel)) (fun _ h9 => h9) rfl dX10_keeps_20 ?_
    refine lv_icmp_ge (tgt := 51) hx hb dX10_keeps_23 (by decide) (fun c3 => ?_) (fun c4 => ?_)
    · have hw := hw.1 c3
      exact hk _ _ _ _ _ hw hP hD hS (lv_sub hl [0, 1, 2, 3] rfl)
    · have hw := hw.2 c4
      refine lv_lload_n hx hb dX10_keeps_26 rfl (lv_at hl 3 rfl) ?_
      refine lv_aload_n hx hb dX10_keeps_27 rfl (lv_at hl 0 rfl) ?_
      refine lv_iload hx hb dX10_keeps_28 (lv_at hl 4 rfl) ?_
      obtain ⟨hPc, hDc⟩ := x_sub (wc := (wld_X10_told cI cJ cZ h_p0 ad_p0 p0_places p0_steps p0_pastFirst p0_past p0_goings p0_rowSize p0_ways p0_hasField p0_fieldSize p0_faultNow p0_hasTree p0_treeSize p0_weightCount p0_roundCount p0_setCount p0_row)) hP hD [0, 2] (n := 4) rfl rfl (by decide +kernel)
      refine x_calli (ws' := fun (u : Unit) => (wld_X10_keeps cI cJ cZ h_p0 ad_p0 p0_places p0_steps p0_pastFirst p0_past p0_goings p0_rowSize p0_ways p0_hasField p0_fieldSize p0_faultNow p0_hasTree p0_treeSize p0_weightCount p0_roundCount p0_setCount p0_puts p0_row p0_takes)) hP hD hS hA [0, 2] [1, 3] [2, 0, 3, 1] (n := 4) (k := 2) rfl (fun _ => rfl) rfl (by decide +kernel) (fun _ => rfl) (va_runV (As := [.int v5]) (rest := [.long v3]) ⟨hx, hb, hml, hown, hts⟩ (c_X10_told (l := l) (dC := dC) (dI := dI) (cI := cI) (cJ := cJ) (cZ := cZ) (sz := H.size) (h_p0 := h_p0) (ad_p0 := ad_p0) (p0_places := p0_places) (p0_steps := p0_steps) (p0_pastFirst := p0_pastFirst) (p0_past := p0_past) (p0_goings := p0_goings) (p0_rowSize := p0_rowSize) (p0_ways := p0_ways) (p0_hasField := p0_hasField) (p0_fieldSize := p0_fieldSize) (p0_faultNow := p0_faultNow) (p0_hasTree := p0_hasTree) (p0_treeSize := p0_treeSize) (p0_weightCount := p0_weightCount) (p0_roundCount := p0_roundCount) (p0_setCount := p0_setCount) (p0_row := p0_row) hw) (cwV 1 hts gX10_keeps_X10_told rfl rfl rfl (by decide +kernel) ⟨Nat.le_of_ble_eq_true rfl, Nat.le_of_ble_eq_true rfl⟩) ⟨xPre_blind, va_recv hK hP (ci := 10) (q0 := 0) rfl rfl, xPre_at hK hPc hDc n1 n2⟩ rfl rfl hl.1 rfl (lv_room (Nat.le_of_ble_eq_true rfl)) dX10_keeps_30 ⟨Nat.zero_le _, Nat.zero_le _⟩) (fun r5 u H locs hw hP hD hS => ?_)
      try dsimp only at hw
      have hP : va_P (dC, dI) vwCl (wld_X10_keeps cI cJ cZ h_p0 ad_p0 p0_places p0_steps p0_pastFirst p0_past p0_goings p0_rowSize p0_ways p0_hasField p0_fieldSize p0_faultNow p0_hasTree p0_treeSize p0_weightCount p0_roundCount p0_setCount p0_puts p0_row p0_takes) H := hP
      have hD : va_D A (wld_X10_keeps cI cJ cZ h_p0 ad_p0 p0_places p0_steps p0_pastFirst p0_past p0_goings p0_rowSize p0_ways p0_hasField p0_fieldSize p0_faultNow p0_hasTree p0_treeSize p0_weightCount p0_roundCount p0_setCount p0_puts p0_row p0_takes) := hD
      refine lv_i2l hx hb dX10_keeps_33 rfl ?_
      refine lv_aload_n hx hb dX10_keeps_34 rfl (lv_at hl 0 rfl) ?_
      refine lv_iload_n hx hb dX10_keeps_35 rfl (lv_at hl 2 rfl) ?_
      refine lv_iload hx hb dX10_keeps_36 (lv_at hl 4 rfl) ?_
      obtain ⟨hPc, hDc⟩ := x_sub (wc := (wld_X10_change cI cJ cZ h_p0 ad_p0 p0_places p0_steps p0_pastFirst p0_past p0_goings p0_rowSize p0_ways p0_hasField p0_fieldSize p0_faultNow p0_hasTree p0_treeSize p0_weightCount p0_roundCount p0_setCount p0_puts p0_takes)) hP hD [0, 1, 3] (n := 4) rfl rfl (by decide +kernel)
      refine x_calli (ws' := fun (u : Unit) => (wld_X10_keeps cI cJ cZ h_p0 ad_p0 p0_places p0_steps p0_pastFirst p0_past p0_goings p0_rowSize p0_ways p0_hasField p0_fieldSize p0_faultNow p0_hasTree p0_treeSize p0_weightCount p0_roundCount p0_setCount p0_puts p0_row p0_takes)) hP hD hS hA [0, 1, 3] [2] [1, 2, 0, 3] (n := 4) (k := 3) rfl (fun _ => rfl) rfl (by decide +kernel) (fun _ => rfl) (va_runV (As := [.int v2, .int v5]) (rest := [.long r5.toInt64, .long v3]) ⟨hx, hb, hml, hown, hts⟩ (c_X10_change (l := l) (dC := dC) (dI := dI) (cI := cI) (cJ := cJ) (cZ := cZ) (sz := H.size) (h_p0 := h_p0) (ad_p0 := ad_p0) (p0_places := p0_places) (p0_steps := p0_steps) (p0_pastFirst := p0_pastFirst) (p0_past := p0_past) (p0_goings := p0_goings) (p0_rowSize := p0_rowSize) (p0_ways := p0_ways) (p0_hasField := p0_hasField) (p0_fieldSize := p0_fieldSize) (p0_faultNow := p0_faultNow) (p0_hasTree := p0_hasTree) (p0_treeSize := p0_treeSize) (p0_weightCount := p0_weightCount) (p0_roundCount := p0_roundCount) (p0_setCount := p0_setCount) (p0_puts := p0_puts) (p0_takes := p0_takes) hw) (cwV 2 hts gX10_keeps_X10_change rfl rfl rfl (by decide +kernel) ⟨Nat.le_of_ble_eq_true rfl, Nat.le_of_ble_eq_true rfl⟩) ⟨xPre_blind, va_recv hK hP (ci := 10) (q0 := 0) rfl rfl, xPre_at hK hPc hDc n1 n2⟩ rfl rfl hl.1 rfl (lv_room (Nat.le_of_ble_eq_true rfl)) dX10_keeps_38 ⟨Nat.zero_le _, Nat.zero_le _⟩) (fun r6 u H locs hw hP hD hS => ?_)
      try dsimp only at hw
      have hP : va_P (dC, dI) vwCl (wld_X10_keeps cI cJ cZ h_p0 ad_p0 p0_places p0_steps p0_pastFirst p0_past p0_goings p0_rowSize p0_ways p0_hasField p0_fieldSize p0_faultNow p0_hasTree p0_treeSize p0_weightCount p0_roundCount p0_setCount p0_puts p0_row p0_takes) H := hP
      have hD : va_D A (wld_X10_keeps cI cJ cZ h_p0 ad_p0 p0_places p0_steps p0_pastFirst p0_past p0_goings p0_rowSize p0_ways p0_hasField p0_fieldSize p0_faultNow p0_hasTree p0_treeSize p0_weightCount p0_roundCount p0_setCount p0_puts p0_row p0_takes) := hD
      refine lv_i2l hx hb dX10_keeps_41 rfl ?_
      refine lv_lmul hx hb dX10_keeps_42 ?_
      refine lv_ladd hx hb dX10_keeps_43 ?_
      refine lv_topl (fun x7 ex7 => ?_)
      have hw := hw x7 ex7
      refine lv_lstore_n (lv' := [(3, .long x7), (0, .ref h_p0), (1, .int v1), (2, .int v2), (5, .int v5)]) hx hb dX10_keeps_44 rfl hl (by decide) rfl (fun ls hl => ?_)
      obtain ⟨x8, ex8⟩ : ∃ y : Int32, y = v5 + (1 : Int32) := ⟨_, rfl⟩
      have hw := hw x8 ex8
      refine lv_iinc (v := x8) (lv' := [(5, .int x8), (3, .long x7), (0, .ref h_p0), (1, .int v1), (2, .int v2)]) hx hb dX10_keeps_45 hl (k := 4) rfl (by rw [ex8]; rfl) (by decide) rfl (fun ls hl => ?_)
      refine lv_goto (tgt := 17) hx hb dX10_keeps_48 (by decide) ?_
      exact ih _ _ hw _ _ _ hP hD hS (lv_sub hl [2, 3, 4, 1, 0] rfl)
set_option maxHeartbeats 4000000 in
set_option maxRecDepth 100000 in
theorem c_X10_keeps_L4 {p : Program} {l : Launch} {e : Env} {s : State} {m : MethodId} {args : Array Value} {below : List Frame} {meth : Method} {c : Code} {dC : Nat → ClassId} {dI : Nat → Nat → Nat} {A : Nat → Prop} {cI cJ cZ : ClassId} {h_p0 : Nat} {ad_p0 : Nat → Nat} {p0_places : Int32} {p0_steps : Int32} {p0_pastFirst : Int32} {p0_past : Int32} {p0_goings : Int32} {p0_rowSize : Int32} {p0_ways : Int32} {p0_hasField : Int32} {p0_fieldSize : Int32} {p0_faultNow : Int32} {p0_hasTree : Int32} {p0_treeSize : Int32} {p0_weightCount : Int32} {p0_roundCount : Int32} {p0_setCount : Int32} {p0_puts : Nat → Int32} {p0_row : Nat → Int32} {p0_takes : Nat → Int32}  {post : Int32 → Prop} {K : (Int32) → (Int32) → Prop} (E0 : xEnv p s m args meth c cX10_keeps (some .int) 6 RX10 wsX10_keeps (dC, dI) cI cJ cZ A) (hk : ∀ (v1 : Int32) (v2 : Int32) (H : Heap) (locs : List Loc) (ls : Array Slot), K v1 v2 → va_P (dC, dI) vwCl (wld_X10_keeps cI cJ cZ h_p0 ad_p0 p0_places p0_steps p0_pastFirst p0_past p0_goings p0_rowSize p0_ways p0_hasField p0_fieldSize p0_faultNow p0_hasTree p0_treeSize p0_weightCount p0_roundCount p0_setCount p0_puts p0_row p0_takes) H → va_D A (wld_X10_keeps cI cJ cZ h_p0 ad_p0 p0_places p0_steps p0_pastFirst p0_past p0_goings p0_rowSize p0_ways p0_hasField p0_fieldSize p0_faultNow p0_hasTree p0_treeSize p0_weightCount p0_roundCount p0_setCount p0_puts p0_row p0_takes) → va_S A s.heap H locs → lv_has ls 6 [(1, .int v1)] → W p l e ({ frames := 1, cells := 0, slots := 0, locals := 22 }) s m args below meth c H locs 0 0 (MQ below (q_X10_keeps dC dI cI cJ cZ h_p0 ad_p0 p0_places p0_steps p0_pastFirst p0_past p0_goings p0_rowSize p0_ways p0_hasField p0_fieldSize p0_faultNow p0_hasTree p0_treeSize p0_weightCount p0_roundCount p0_setCount p0_puts p0_row p0_takes post A) args s 0 0 A) (F0 m 73 ls [])) : ∀ (n : Nat) (v1 : Int32) (v2 : Int32), w_X10_keeps_L4 p0_places p0_rowSize p0_steps p0_puts p0_row p0_takes post K n v1 v2 → ∀ (H : Heap) (locs : List Loc) (ls : Array Slot), va_P (dC, dI) vwCl (wld_X10_keeps cI cJ cZ h_p0 ad_p0 p0_places p0_steps p0_pastFirst p0_past p0_goings p0_rowSize p0_ways p0_hasField p0_fieldSize p0_faultNow p0_hasTree p0_treeSize p0_weightCount p0_roundCount p0_setCount p0_puts p0_row p0_takes) H → va_D A (wld_X10_keeps cI cJ cZ h_p0 ad_p0 p0_places p0_steps p0_pastFirst p0_past p0_goings p0_rowSize p0_ways p0_hasField p0_fieldSize p0_faultNow p0_hasTree p0_treeSize p0_weightCount p0_roundCount p0_setCount p0_puts p0_row p0_takes) → va_S A s.heap H locs → lv_has ls 6 [(0, .ref h_p0), (1, .int v1), (2, .int v2)] → W p l e ({ frames := 1, cells := 0, slots := 0, locals := 22 }) s m args below meth c H locs 0 0 (MQ below (q_X10_keeps dC dI cI cJ cZ h_p0 ad_p0 p0_places p0_steps p0_pastFirst p0_past p0_goings p0_rowSize p0_ways p0_hasField p0_fieldSize p0_faultNow p0_hasTree p0_treeSize p0_weightCount p0_roundCount p0_setCount p0_puts p0_row p0_takes post A) args s 0 0 A) (F0 m 4 ls []) := by
  obtain ⟨hx, hb, hr, hml, hown, hts, hlocks, hK, hA, n1, n2⟩ := id E0
  have iX10 : ∀ w ∈ u_ws RX10 TX10 50, w ∈ wsX10_keeps := fun w h => List.mem_cons_of_mem _ (List.mem_append_right _ h)
  intro n
  induction n with
  | zero => intro v1 v2 hw; exact hw.elim
  | succ n ih =>
    intro v1 v2 hw H locs ls hP hD hS hl
    have hw : w_X10_keeps_L4b p0_places p0_rowSize p0_steps p0_puts p0_row p0_takes post K (w_X10_keeps_L4 p0_places p0_rowSize p0_steps p0_puts p0_row p0_takes post K n) v1 v2 := hw
    unfold w_X10_keeps_L4b at hw
    refine lv_iload_n hx hb dX10_keeps_4 rfl (lv_at hl 2 rfl) ?_
    refine lv_aload_n hx hb dX10_keeps_5 rfl (lv_at hl 0 rfl) ?_
    refine va_get (D := (dC, dI)) (ci := 10) (v := .int p0_steps) (C := RX10) (T := TX10) (N := 50) hx hb hts iX10 hown hK hP 0 rfl rfl 1 (by decide) (hts (.fieldLink RX10 130 "NetHouseModel" "steps" "I") (by decide +kernel)) (fun _ h9 => h9) rfl dX10_keeps_6 ?_
    refine lv_icmp_ge (tgt := 73) hx hb dX10_keeps_9 (by decide) (fun c1 => ?_) (fun c2 => ?_)
    · have hw := hw.1 c1
      exact hk _ _ _ _ _ hw hP hD hS (lv_sub hl [1] rfl)
    · have hw := hw.2 c2
      refine lv_lconst (v := 0) hx hb dX10_keeps_12 (by decide) ?_
      refine lv_lstore_n (lv' := [(3, .long (0 : Int64)), (0, .ref h_p0), (1, .int v1), (2, .int v2)]) hx hb dX10_keeps_13 rfl hl (by decide) rfl (fun ls hl => ?_)
      refine lv_iconst (v := 0) hx hb dX10_keeps_14 (by decide) ?_
      refine lv_istore (lv' := [(5, .int (0 : Int32)), (3, .long (0 : Int64)), (0, .ref h_p0), (1, .int v1), (2, .int v2)]) hx hb dX10_keeps_15 hl (by decide) rfl (fun ls hl => ?_)
      obtain ⟨n9, hw⟩ := hw
      refine c_X10_keeps_L17 (l := l)  E0 ?_ n9 _ _ hw _ _ _ hP hD hS (lv_sub hl [2, 3, 4, 1, 0] rfl)
      · intro v10 v11 H locs ls hw hP hD hS hl
        have hP : va_P (dC, dI) vwCl (wld_X10_keeps cI cJ cZ h_p0 ad_p0 p0_places p0_steps p0_pastFirst p0_past p0_goings p0_rowSize p0_ways p0_hasField p0_fieldSize p0_faultNow p0_hasTree p0_treeSize p0_weightCount p0_roundCount p0_setCount p0_puts p0_row p0_takes) H := hP
        have hD : va_D A (wld_X10_keeps cI cJ cZ h_p0 ad_p0 p0_places p0_steps p0_pastFirst p0_past p0_goings p0_rowSize p0_ways p0_hasField p0_fieldSize p0_faultNow p0_hasTree p0_treeSize p0_weightCount p0_roundCount p0_setCount p0_puts p0_row p0_takes) := hD
        refine lv_iload_n hx hb dX10_keeps_51 rfl (lv_at hl 1 rfl) ?_
        refine lv_if_eq (tgt := 65) hx hb dX10_keeps_52 (by decide) (fun c12 => ?_) (fun c13 => ?_)
        · have hw := hw.1 c12
          refine lv_iconst (v := 0) hx hb dX10_keeps_65 (by decide) ?_
          refine lv_istore_n (lv' := [(1, .int (0 : Int32)), (0, .ref h_p0), (2, .int v2), (3, .long v10)]) hx hb dX10_keeps_66 rfl hl (by decide) rfl (fun ls hl => ?_)
          obtain ⟨x14, ex14⟩ : ∃ y : Int32, y = v2 + (1 : Int32) := ⟨_, rfl⟩
          have hw := hw x14 ex14
          refine lv_iinc (v := x14) (lv' := [(2, .int x14), (1, .int (0 : Int32)), (0, .ref h_p0), (3, .long v10)]) hx hb dX10_keeps_67 hl (k := 2) rfl (by rw [ex14]; rfl) (by decide) rfl (fun ls hl => ?_)
          refine lv_goto (tgt := 4) hx hb dX10_keeps_70 (by decide) ?_
          exact ih _ _ hw _ _ _ hP hD hS (lv_sub hl [2, 1, 0] rfl)
        · have hw := hw.2 c13
          refine lv_lload_n hx hb dX10_keeps_55 rfl (lv_at hl 3 rfl) ?_
          refine lv_lconst (v := 0) hx hb dX10_keeps_56 (by decide) ?_
          refine W.lcmp hx hb dX10_keeps_57 ?_
          refine lv_if_ne (tgt := 65) hx hb dX10_keeps_58 (by decide) (fun c15 => ?_) (fun c16 => ?_)
          · have hw := hw.1 c15
            refine lv_iconst (v := 0) hx hb dX10_keeps_65 (by decide) ?_
            refine lv_istore_n (lv' := [(1, .int (0 : Int32)), (0, .ref h_p0), (2, .int v2), (3, .long v10)]) hx hb dX10_keeps_66 rfl hl (by decide) rfl (fun ls hl => ?_)
            obtain ⟨x17, ex17⟩ : ∃ y : Int32, y = v2 + (1 : Int32) := ⟨_, rfl⟩
            have hw := hw x17 ex17
            refine lv_iinc (v := x17) (lv' := [(2, .int x17), (1, .int (0 : Int32)), (0, .ref h_p0), (3, .long v10)]) hx hb dX10_keeps_67 hl (k := 2) rfl (by rw [ex17]; rfl) (by decide) rfl (fun ls hl => ?_)
            refine lv_goto (tgt := 4) hx hb dX10_keeps_70 (by decide) ?_
            exact ih _ _ hw _ _ _ hP hD hS (lv_sub hl [2, 1, 0] rfl)
          · have hw := hw.2 c16
            refine lv_iconst (v := 1) hx hb dX10_keeps_61 (by decide) ?_
            refine lv_goto (tgt := 66) hx hb dX10_keeps_62 (by decide) ?_
            refine lv_istore_n (lv' := [(1, .int (1 : Int32)), (0, .ref h_p0), (2, .int v2), (3, .long v10)]) hx hb dX10_keeps_66 rfl hl (by decide) rfl (fun ls hl => ?_)
            obtain ⟨x18, ex18⟩ : ∃ y : Int32, y = v2 + (1 : Int32) := ⟨_, rfl⟩
            have hw := hw x18 ex18
            refine lv_iinc (v := x18) (lv' := [(2, .int x18), (1, .int (1 : Int32)), (0, .ref h_p0), (3, .long v10)]) hx hb dX10_keeps_67 hl (k := 2) rfl (by rw [ex18]; rfl) (by decide) rfl (fun ls hl => ?_)
            refine lv_goto (tgt := 4) hx hb dX10_keeps_70 (by decide) ?_
            exact ih _ _ hw _ _ _ hP hD hS (lv_sub hl [2, 1, 0] rfl)
set_option maxHeartbeats 4000000 in
set_option maxRecDepth 100000 in
theorem c_X10_keeps {l : Launch} {dC : Nat → ClassId} {dI : Nat → Nat → Nat} {sz : Nat} {cI cJ cZ : ClassId} {h_p0 : Nat} {ad_p0 : Nat → Nat} {p0_places : Int32} {p0_steps : Int32} {p0_pastFirst : Int32} {p0_past : Int32} {p0_goings : Int32} {p0_rowSize : Int32} {p0_ways : Int32} {p0_hasField : Int32} {p0_fieldSize : Int32} {p0_faultNow : Int32} {p0_hasTree : Int32} {p0_treeSize : Int32} {p0_weightCount : Int32} {p0_roundCount : Int32} {p0_setCount : Int32} {p0_puts : Nat → Int32} {p0_row : Nat → Int32} {p0_takes : Nat → Int32}  {post : Int32 → Prop} (hw : w_X10_keeps p0_places p0_rowSize p0_steps p0_puts p0_row p0_takes post) : Met l yX10_keeps wsX10_keeps ({ frames := 1, cells := 0, slots := 0, locals := 22 }) (va_Pc [.ref h_p0] (xPre (dC, dI) cI cJ cZ (wld_X10_keeps cI cJ cZ h_p0 ad_p0 p0_places p0_steps p0_pastFirst p0_past p0_goings p0_rowSize p0_ways p0_hasField p0_fieldSize p0_faultNow p0_hasTree p0_treeSize p0_weightCount p0_roundCount p0_setCount p0_puts p0_row p0_takes) sz)) (q_X10_keeps dC dI cI cJ cZ h_p0 ad_p0 p0_places p0_steps p0_pastFirst p0_past p0_goings p0_rowSize p0_ways p0_hasField p0_fieldSize p0_faultNow p0_hasTree p0_treeSize p0_weightCount p0_roundCount p0_setCount p0_puts p0_row p0_takes post (va_A (wld_X10_keeps cI cJ cZ h_p0 ad_p0 p0_places p0_steps p0_pastFirst p0_past p0_goings p0_rowSize p0_ways p0_hasField p0_fieldSize p0_faultNow p0_hasTree p0_treeSize p0_weightCount p0_roundCount p0_setCount p0_puts p0_row p0_takes) sz)) 0 0 (va_A (wld_X10_keeps cI cJ cZ h_p0 ad_p0 p0_places p0_steps p0_pastFirst p0_past p0_goings p0_rowSize p0_ways p0_hasField p0_fieldSize p0_faultNow p0_hasTree p0_treeSize p0_weightCount p0_roundCount p0_setCount p0_puts p0_row p0_takes) sz) := by
  refine x_met (cc := cX10_keeps) (maxL := 6) (ret := (some .int)) (own := RX10) (Qc := fun A => (q_X10_keeps dC dI cI cJ cZ h_p0 ad_p0 p0_places p0_steps p0_pastFirst p0_past p0_goings p0_rowSize p0_ways p0_hasField p0_fieldSize p0_faultNow p0_hasTree p0_treeSize p0_weightCount p0_roundCount p0_setCount p0_puts p0_row p0_takes post A)) (by decide) rfl rfl (Nat.le_of_ble_eq_true rfl) ?_
  intro p e s m args below meth c A ls E0 hP hD hS hl
  obtain ⟨hx, hb, hr, hml, hown, hts, hlocks, hK, hA, n1, n2⟩ := id E0
  have iX10 : ∀ w ∈ u_ws RX10 TX10 50, w ∈ wsX10_keeps := fun w h => List.mem_cons_of_mem _ (List.mem_append_right _ h)
  have hS0 := hS
  have hl : lv_has ls 6 [(0, .ref h_p0)] := hl
  unfold w_X10_keeps at hw
  obtain ⟨H, hH⟩ : ∃ H, H = s.heap := ⟨_, rfl⟩
  have hS : va_S A s.heap H [] := by rw [hH]; exact hS
  have hP : va_P (dC, dI) vwCl (wld_X10_keeps cI cJ cZ h_p0 ad_p0 p0_places p0_steps p0_pastFirst p0_past p0_goings p0_rowSize p0_ways p0_hasField p0_fieldSize p0_faultNow p0_hasTree p0_treeSize p0_weightCount p0_roundCount p0_setCount p0_puts p0_row p0_takes) H := by rw [hH]; exact hP
  suffices hG : W p l e ({ frames := 1, cells := 0, slots := 0, locals := 22 }) s m args below meth c H [] 0 0 (MQ below (q_X10_keeps dC dI cI cJ cZ h_p0 ad_p0 p0_places p0_steps p0_pastFirst p0_past p0_goings p0_rowSize p0_ways p0_hasField p0_fieldSize p0_faultNow p0_hasTree p0_treeSize p0_weightCount p0_roundCount p0_setCount p0_puts p0_row p0_takes post A) args s 0 0 A) (F0 m 0 ls []) by rw [hH] at hG; exact hG
  clear hH
  refine lv_iconst (v := 1) hx hb dX10_keeps_0 (by decide) ?_
  refine lv_istore_n (lv' := [(1, .int (1 : Int32)), (0, .ref h_p0)]) hx hb dX10_keeps_1 rfl hl (by decide) rfl (fun ls hl => ?_)
  refine lv_iconst (v := 0) hx hb dX10_keeps_2 (by decide) ?_
  refine lv_istore_n (lv' := [(2, .int (0 : Int32)), (1, .int (1 : Int32)), (0, .ref h_p0)]) hx hb dX10_keeps_3 rfl hl (by decide) rfl (fun ls hl => ?_)
  obtain ⟨n19, hw⟩ := hw
  refine c_X10_keeps_L4 (l := l)  E0 ?_ n19 _ _ hw _ _ _ hP hD hS (lv_sub hl [2, 1, 0] rfl)
  · intro v20 v21 H locs ls hw hP hD hS hl
    have hP : va_P (dC, dI) vwCl (wld_X10_keeps cI cJ cZ h_p0 ad_p0 p0_places p0_steps p0_pastFirst p0_past p0_goings p0_rowSize p0_ways p0_hasField p0_fieldSize p0_faultNow p0_hasTree p0_treeSize p0_weightCount p0_roundCount p0_setCount p0_puts p0_row p0_takes) H := hP
    have hD : va_D A (wld_X10_keeps cI cJ cZ h_p0 ad_p0 p0_places p0_steps p0_pastFirst p0_past p0_goings p0_rowSize p0_ways p0_hasField p0_fieldSize p0_faultNow p0_hasTree p0_treeSize p0_weightCount p0_roundCount p0_setCount p0_puts p0_row p0_takes) := hD
    refine lv_iload_n hx hb dX10_keeps_73 rfl (lv_at hl 0 rfl) ?_
    refine lv_if_eq (tgt := 81) hx hb dX10_keeps_74 (by decide) (fun c22 => ?_) (fun c23 => ?_)
    · have hw := hw.1 c22
      refine lv_iconst (v := 0) hx hb dX10_keeps_81 (by decide) ?_
      exact x_iret (w1 := fun (u : Unit) => (wld_X10_keeps cI cJ cZ h_p0 ad_p0 p0_places p0_steps p0_pastFirst p0_past p0_goings p0_rowSize p0_ways p0_hasField p0_fieldSize p0_faultNow p0_hasTree p0_treeSize p0_weightCount p0_roundCount p0_setCount p0_puts p0_row p0_takes)) hx hb hr hlocks () hw hP hD hS dX10_keeps_82
    · have hw := hw.2 c23
      refine lv_iconst (v := 1) hx hb dX10_keeps_77 (by decide) ?_
      refine lv_goto (tgt := 82) hx hb dX10_keeps_78 (by decide) ?_
      exact x_iret (w1 := fun (u : Unit) => (wld_X10_keeps cI cJ cZ h_p0 ad_p0 p0_places p0_steps p0_pastFirst p0_past p0_goings p0_rowSize p0_ways p0_hasField p0_fieldSize p0_faultNow p0_hasTree p0_treeSize p0_weightCount p0_roundCount p0_setCount p0_puts p0_row p0_takes)) hx hb hr hlocks () hw hP hD hS dX10_keeps_82
abbrev wld_X10_turns (cI cJ cZ : ClassId) (h_p0 : Nat) (ad_p0 : Nat → Nat) (p0_places : Int32) (p0_steps : Int32) (p0_pastFirst : Int32) (p0_past : Int32) (p0_goings : Int32) (p0_rowSize : Int32) (p0_ways : Int32) (p0_hasField : Int32) (p0_fieldSize : Int32) (p0_faultNow : Int32) (p0_hasTree : Int32) (p0_treeSize : Int32) (p0_weightCount : Int32) (p0_roundCount : Int32) (p0_setCount : Int32) (p0_puts : Nat → Int32) (p0_row : Nat → Int32) (p0_takes : Nat → Int32) : va_W := [(h_p0, .inr (10, [.int p0_places, .int p0_steps, .ref (ad_p0 2), .ref (ad_p0 3), .ref (ad_p0 4), .ref (ad_p0 5), .ref (ad_p0 6), .ref (ad_p0 7), .ref (ad_p0 8), .ref (ad_p0 9), .ref (ad_p0 10), .ref (ad_p0 11), .ref (ad_p0 12), .ref (ad_p0 13), .ref (ad_p0 14), .int p0_pastFirst, .int p0_past, .int p0_goings, .int p0_rowSize, .ref (ad_p0 19), .ref (ad_p0 20), .int p0_ways, .ref (ad_p0 22), .ref (ad_p0 23), .int p0_hasField, .int p0_fieldSize, .ref (ad_p0 26), .ref (ad_p0 27), .ref (ad_p0 28), .ref (ad_p0 29), .ref (ad_p0 30), .ref (ad_p0 31), .ref (ad_p0 32), .int p0_faultNow, .int p0_hasTree, .int p0_treeSize, .ref (ad_p0 36), .ref (ad_p0 37), .ref (ad_p0 38), .ref (ad_p0 39), .ref (ad_p0 40), .ref (ad_p0 41), .ref (ad_p0 42), .int p0_weightCount, .ref (ad_p0 44), .int p0_roundCount, .ref (ad_p0 46), .int p0_setCount, .ref (ad_p0 48), .ref (ad_p0 49)])), ((ad_p0 5), .inl (cI, 256, .inl p0_puts)), ((ad_p0 19), .inl (cI, 16, .inl p0_row)), ((ad_p0 4), .inl (cI, 256, .inl p0_takes))]
abbrev q_X10_turns (dC : Nat → ClassId) (dI : Nat → Nat → Nat) (cI cJ cZ : ClassId) (h_p0 : Nat) (ad_p0 : Nat → Nat) (p0_places : Int32) (p0_steps : Int32) (p0_pastFirst : Int32) (p0_past : Int32) (p0_goings : Int32) (p0_rowSize : Int32) (p0_ways : Int32) (p0_hasField : Int32) (p0_fieldSize : Int32) (p0_faultNow : Int32) (p0_hasTree : Int32) (p0_treeSize : Int32) (p0_weightCount : Int32) (p0_roundCount : Int32) (p0_setCount : Int32) (p0_puts : Nat → Int32) (p0_row : Nat → Int32) (p0_takes : Nat → Int32) (post : Int32 → Prop) (A : Nat → Prop) : Array Value → State → Outcome → State → Prop := va_Qi (fun r (u : Unit) => post r ) (fun (u : Unit) t => xPost (dC, dI) A (wld_X10_turns cI cJ cZ h_p0 ad_p0 p0_places p0_steps p0_pastFirst p0_past p0_goings p0_rowSize p0_ways p0_hasField p0_fieldSize p0_faultNow p0_hasTree p0_treeSize p0_weightCount p0_roundCount p0_setCount p0_puts p0_row p0_takes) t) A
def w_X10_turns_L4b (p0_places : Int32) (p0_rowSize : Int32) (p0_steps : Int32) (p0_puts : Nat → Int32) (p0_row : Nat → Int32) (p0_takes : Nat → Int32) (post : Int32 → Prop) (K : (Int32) → (Int32) → Prop) (rec : (Int32) → (Int32) → Prop) (v1 : Int32) (v2 : Int32) : Prop :=
    (p0_steps ≤ v2 →
      K v1 v2) ∧
    (¬ p0_steps ≤ v2 →
      (v1 = 0 →
        ∀ x5 : Int32, x5 = v2 + (1 : Int32) →
        rec (0 : Int32) x5) ∧
      (¬ v1 = 0 →
        w_X10_told p0_rowSize p0_row v2 (fun r6 =>
        (r6 < 0 →
          ∀ x9 : Int32, x9 = v2 + (1 : Int32) →
          rec (0 : Int32) x9) ∧
        (¬ r6 < 0 →
          ∀ x10 : Int32, x10 = v2 + (1 : Int32) →
          rec (1 : Int32) x10))))
def w_X10_turns_L4 (p0_places : Int32) (p0_rowSize : Int32) (p0_steps : Int32) (p0_puts : Nat → Int32) (p0_row : Nat → Int32) (p0_takes : Nat → Int32) (post : Int32 → Prop) (K : (Int32) → (Int32) → Prop) : Nat → (Int32) → (Int32) → Prop
  | 0, _, _ => False
  | n + 1, v1, v2 => w_X10_turns_L4b p0_places p0_rowSize p0_steps p0_puts p0_row p0_takes post K (w_X10_turns_L4 p0_places p0_rowSize p0_steps p0_puts p0_row p0_takes post K n) v1 v2
def w_X10_turns_L51b (v1 : Int32) (v2 : Int32) (p0_places : Int32) (p0_rowSize : Int32) (p0_steps : Int32) (p0_puts : Nat → Int32) (p0_row : Nat → Int32) (p0_takes : Nat → Int32) (post : Int32 → Prop) (K : (Int64) → (Int32) → Prop) (rec : (Int64) → (Int32) → Prop) (v3 : Int64) (v5 : Int32) : Prop :=
    (p0_steps ≤ v5 →
      K v3 v5) ∧
    (¬ p0_steps ≤ v5 →
      w_X10_told p0_rowSize p0_row v5 (fun r18 =>
      w_X10_change p0_puts p0_takes v5 v2 (fun r19 =>
      ∀ x20 : Int64, x20 = (v3 + (r18.toInt64 * r19.toInt64)) →
      ∀ x21 : Int32, x21 = v5 + (1 : Int32) →
      rec x20 x21)))
def w_X10_turns_L51 (v1 : Int32) (v2 : Int32) (p0_places : Int32) (p0_rowSize : Int32) (p0_steps : Int32) (p0_puts : Nat → Int32) (p0_row : Nat → Int32) (p0_takes : Nat → Int32) (post : Int32 → Prop) (K : (Int64) → (Int32) → Prop) : Nat → (Int64) → (Int32) → Prop
  | 0, _, _ => False
  | n + 1, v3, v5 => w_X10_turns_L51b v1 v2 p0_places p0_rowSize p0_steps p0_puts p0_row p0_takes post K (w_X10_turns_L51 v1 v2 p0_places p0_rowSize p0_steps p0_puts p0_row p0_takes post K n) v3 v5
def w_X10_turns_L38b (p0_places : Int32) (p0_rowSize : Int32) (p0_steps : Int32) (p0_puts : Nat → Int32) (p0_row : Nat → Int32) (p0_takes : Nat → Int32) (post : Int32 → Prop) (K : (Int32) → (Int32) → Prop) (rec : (Int32) → (Int32) → Prop) (v1 : Int32) (v2 : Int32) : Prop :=
    (p0_places ≤ v2 →
      K v1 v2) ∧
    (¬ p0_places ≤ v2 →
      ∃ n : Nat, w_X10_turns_L51 v1 v2 p0_places p0_rowSize p0_steps p0_puts p0_row p0_takes post (fun v23 v24 =>
          (v1 = 0 →
            ∀ x27 : Int32, x27 = v2 + (1 : Int32) →
            rec (0 : Int32) x27) ∧
          (¬ v1 = 0 →
            (¬ (lg_cmp v23 (0 : Int64)) = 0 →
              ∀ x30 : Int32, x30 = v2 + (1 : Int32) →
              rec (0 : Int32) x30) ∧
            ((lg_cmp v23 (0 : Int64)) = 0 →
              ∀ x31 : Int32, x31 = v2 + (1 : Int32) →
              rec (1 : Int32) x31))) n (0 : Int64) (0 : Int32))
def w_X10_turns_L38 (p0_places : Int32) (p0_rowSize : Int32) (p0_steps : Int32) (p0_puts : Nat → Int32) (p0_row : Nat → Int32) (p0_takes : Nat → Int32) (post : Int32 → Prop) (K : (Int32) → (Int32) → Prop) : Nat → (Int32) → (Int32) → Prop
  | 0, _, _ => False
  | n + 1, v1, v2 => w_X10_turns_L38b p0_places p0_rowSize p0_steps p0_puts p0_row p0_takes post K (w_X10_turns_L38 p0_places p0_rowSize p0_steps p0_puts p0_row p0_takes post K n) v1 v2
def w_X10_turns (p0_places : Int32) (p0_rowSize : Int32) (p0_steps : Int32) (p0_puts : Nat → Int32) (p0_row : Nat → Int32) (p0_takes : Nat → Int32) (post : Int32 → Prop) : Prop :=
  ∃ n : Nat, w_X10_turns_L4 p0_places p0_rowSize p0_steps p0_puts p0_row p0_takes post (fun v12 v13 =>
      ∃ n : Nat, w_X10_turns_L38 p0_places p0_rowSize p0_steps p0_puts p0_row p0_takes post (fun v33 v34 =>
          (v33 = 0 →
            (post (0 : Int32))) ∧
          (¬ v33 = 0 →
            (post (1 : Int32)))) n v12 (0 : Int32)) n (1 : Int32) (0 : Int32)
set_option maxHeartbeats 4000000 in
set_option maxRecDepth 100000 in
theorem c_X10_turns_L4 {p : Program} {l : Launch} {e : Env} {s : State} {m : MethodId} {args : Array Value} {below : List Frame} {meth : Method} {c : Code} {dC : Nat → ClassId} {dI : Nat → Nat → Nat} {A : Nat → Prop} {cI cJ cZ : ClassId} {h_p0 : Nat} {ad_p0 : Nat → Nat} {p0_places : Int32} {p0_steps : Int32} {p0_pastFirst : Int32} {p0_past : Int32} {p0_goings : Int32} {p0_rowSize : Int32} {p0_ways : Int32} {p0_hasField : Int32} {p0_fieldSize : Int32} {p0_faultNow : Int32} {p0_hasTree : Int32} {p0_treeSize : Int32} {p0_weightCount : Int32} {p0_roundCount : Int32} {p0_setCount : Int32} {p0_puts : Nat → Int32} {p0_row : Nat → Int32} {p0_takes : Nat → Int32}  {post : Int32 → Prop} {K : (Int32) → (Int32) → Prop} (E0 : xEnv p s m args meth c cX10_turns (some .int) 6 RX10 wsX10_turns (dC, dI) cI cJ cZ A) (hk : ∀ (v1 : Int32) (v2 : Int32) (H : Heap) (locs : List Loc) (ls : Array Slot), K v1 v2 → va_P (dC, dI) vwCl (wld_X10_turns cI cJ cZ h_p0 ad_p0 p0_places p0_steps p0_pastFirst p0_past p0_goings p0_rowSize p0_ways p0_hasField p0_fieldSize p0_faultNow p0_hasTree p0_treeSize p0_weightCount p0_roundCount p0_setCount p0_puts p0_row p0_takes) H → va_D A (wld_X10_turns cI cJ cZ h_p0 ad_p0 p0_places p0_steps p0_pastFirst p0_past p0_goings p0_rowSize p0_ways p0_hasField p0_fieldSize p0_faultNow p0_hasTree p0_treeSize p0_weightCount p0_roundCount p0_setCount p0_puts p0_row p0_takes) → va_S A s.heap H locs → lv_has ls 6 [(0, .ref h_p0), (1, .int v1)] → W p l e ({ frames := 1, cells := 0, slots := 0, locals := 22 }) s m args below meth c H locs 0 0 (MQ below (q_X10_turns dC dI cI cJ cZ h_p0 ad_p0 p0_places p0_steps p0_pastFirst p0_past p0_goings p0_rowSize p0_ways p0_hasField p0_fieldSize p0_faultNow p0_hasTree p0_treeSize p0_weightCount p0_roundCount p0_setCount p0_puts p0_row p0_takes post A) args s 0 0 A) (F0 m 36 ls [])) : ∀ (n : Nat) (v1 : Int32) (v2 : Int32), w_X10_turns_L4 p0_places p0_rowSize p0_steps p0_puts p0_row p0_takes post K n v1 v2 → ∀ (H : Heap) (locs : List Loc) (ls : Array Slot), va_P (dC, dI) vwCl (wld_X10_turns cI cJ cZ h_p0 ad_p0 p0_places p0_steps p0_pastFirst p0_past p0_goings p0_rowSize p0_ways p0_hasField p0_fieldSize p0_faultNow p0_hasTree p0_treeSize p0_weightCount p0_roundCount p0_setCount p0_puts p0_row p0_takes) H → va_D A (wld_X10_turns cI cJ cZ h_p0 ad_p0 p0_places p0_steps p0_pastFirst p0_past p0_goings p0_rowSize p0_ways p0_hasField p0_fieldSize p0_faultNow p0_hasTree p0_treeSize p0_weightCount p0_roundCount p0_setCount p0_puts p0_row p0_takes) → va_S A s.heap H locs → lv_has ls 6 [(0, .ref h_p0), (1, .int v1), (2, .int v2)] → W p l e ({ frames := 1, cells := 0, slots := 0, locals := 22 }) s m args below meth c H locs 0 0 (MQ below (q_X10_turns dC dI cI cJ cZ h_p0 ad_p0 p0_places p0_steps p0_pastFirst p0_past p0_goings p0_rowSize p0_ways p0_hasField p0_fieldSize p0_faultNow p0_hasTree p0_treeSize p0_weightCount p0_roundCount p0_setCount p0_puts p0_row p0_takes post A) args s 0 0 A) (F0 m 4 ls []) := by
  obtain ⟨hx, hb, hr, hml, hown, hts, hlocks, hK, hA, n1, n2⟩ := id E0
  have iX10 : ∀ w ∈ u_ws RX10 TX10 50, w ∈ wsX10_turns := fun w h => List.mem_cons_of_mem _ (List.mem_append_right _ h)
  intro n
  induction n with
  | zero => intro v1 v2 hw; exact hw.elim
  | succ n ih =>
    intro v1 v2 hw H locs ls hP hD hS hl
    have hw : w_X10_turns_L4b p0_places p0_rowSize p0_steps p0_puts p0_row p0_takes post K (w_X10_turns_L4 p0_places p0_rowSize p0_steps p0_puts p0_row p0_takes post K n) v1 v2 := hw
    unfold w_X10_turns_L4b at hw
    refine lv_iload_n hx hb dX10_turns_4 rfl (lv_at hl 2 rfl) ?_
    refine lv_aload_n hx hb dX10_turns_5 rfl (lv_at hl 0 rfl) ?_
    refine va_get (D := (dC, dI)) (ci := 10) (v := .int p0_steps) (C := RX10) (T := TX10) (N := 50) hx hb hts iX10 hown hK hP 0 rfl rfl 1 (by decide) (hts (.fieldLink RX10 130 "NetHouseModel" "steps" "I") (by decide +kernel)) (fun _ h9 => h9) rfl dX10_turns_6 ?_
    refine lv_icmp_ge (tgt := 36) hx hb dX10_turns_9 (by decide) (fun c1 => ?_) (fun c2 => ?_)
    · have hw := hw.1 c1
      exact hk _ _ _ _ _ hw hP hD hS (lv_sub hl [0, 1] rfl)
    · have hw := hw.2 c2
      refine lv_iload_n hx hb dX10_turns_12 rfl (lv_at hl 1 rfl) ?_
      refine lv_if_eq (tgt := 28) hx hb dX10_turns_13 (by decide) (fun c3 => ?_) (fun c4 => ?_)
      · have hw := hw.1 c3
        refine lv_iconst (v := 0) hx hb dX10_turns_28 (by decide) ?_
        refine lv_istore_n (lv' := [(1, .int (0 : Int32)), (0, .ref h_p0), (2, .int v2)]) hx hb dX10_turns_29 rfl hl (by decide) rfl (fun ls hl => ?_)
        obtain ⟨x5, ex5⟩ : ∃ y : Int32, y = v2 + (1 : Int32) := ⟨_, rfl⟩
        have hw := hw x5 ex5
        refine lv_iinc (v := x5) (lv' := [(2, .int x5), (1, .int (0 : Int32)), (0, .ref h_p0)]) hx hb dX10_turns_30 hl (k := 2) rfl (by rw [ex5]; rfl) (by decide) rfl (fun ls hl => ?_)
        refine lv_goto (tgt := 4) hx hb dX10_turns_33 (by decide) ?_
        exact ih _ _ hw _ _ _ hP hD hS (lv_sub hl [2, 1, 0] rfl)
      · have hw := hw.2 c4
        refine lv_aload_n hx hb dX10_turns_16 rfl (lv_at hl 0 rfl) ?_
        refine lv_iload_n hx hb dX10_turns_17 rfl (lv_at hl 2 rfl) ?_
        obtain ⟨hPc, hDc⟩ := x_sub (wc := (wld_X10_told cI cJ cZ h_p0 ad_p0 p0_places p0_steps p0_pastFirst p0_past p0_goings p0_rowSize p0_ways p0_hasField p0_fieldSize p0_faultNow p0_hasTree p0_treeSize p0_weightCount p0_roundCount p0_setCount p0_row)) hP hD [0, 2] (n := 4) rfl rfl (by decide +kernel)
        refine x_calli (ws' := fun (u : Unit) => (wld_X10_turns cI cJ cZ h_p0 ad_p0 p0_places p0_steps p0_pastFirst p0_past p0_goings p0_rowSize p0_ways p0_hasField p0_fieldSize p0_faultNow p0_hasTree p0_treeSize p0_weightCount p0_roundCount p0_setCount p0_puts p0_row p0_takes)) hP hD hS hA [0, 2] [1, 3] [2, 0, 3, 1] (n := 4) (k := 2) rfl (fun _ => rfl) rfl (by decide +kernel) (fun _ => rfl) (va_runV (As := [.int v2]) (rest := []) ⟨hx, hb, hml, hown, hts⟩ (c_X10_told (l := l) (dC := dC) (dI := dI) (cI := cI) (cJ := cJ) (cZ := cZ) (sz := H.size) (h_p0 := h_p0) (ad_p0 := ad_p0) (p0_places := p0_places) (p0_steps := p0_steps) (p0_pastFirst := p0_pastFirst) (p0_past := p0_past) (p0_goings := p0_goings) (p0_rowSize := p0_rowSize) (p0_ways := p0_ways) (p0_hasField := p0_hasField) (p0_fieldSize := p0_fieldSize) (p0_faultNow := p0_faultNow) (p0_hasTree := p0_hasTree) (p0_treeSize := p0_treeSize) (p0_weightCount := p0_weightCount) (p0_roundCount := p0_roundCount) (p0_setCount := p0_setCount) (p0_row := p0_row) hw) (cwV 1 hts gX10_turns_X10_told rfl rfl rfl (by decide +kernel) ⟨Nat.le_of_ble_eq_true rfl, Nat.le_of_ble_eq_true rfl⟩) ⟨xPre_blind, va_recv hK hP (ci := 10) (q0 := 0) rfl rfl, xPre_at hK hPc hDc n1 n2⟩ rfl rfl hl.1 rfl (lv_room (Nat.le_of_ble_eq_true rfl)) dX10_turns_18 ⟨Nat.zero_le _, Nat.zero_le _⟩) (fun r6 u H locs hw hP hD hS => ?_)
        try dsimp only at hw
        have hP : va_P (dC, dI) vwCl (wld_X10_turns cI cJ cZ h_p0 ad_p0 p0_places p0_steps p0_pastFirst p0_past p0_goings p0_rowSize p0_ways p0_hasField p0_fieldSize p0_faultNow p0_hasTree p0_treeSize p0_weightCount p0_roundCount p0_setCount p0_puts p0_row p0_takes) H := hP
        have hD : va_D A (wld_X10_turns cI cJ cZ h_p0 ad_p0 p0_places p0_steps p0_pastFirst p0_past p0_goings p0_rowSize p0_ways p0_hasField p0_fieldSize p0_faultNow p0_hasTree p0_treeSize p0_weightCount p0_roundCount p0_setCount p0_puts p0_row p0_takes) := hD
        refine lv_if_lt (tgt := 28) hx hb dX10_turns_21 (by decide) (fun c7 => ?_) (fun c8 => ?_)
        · have hw := hw.1 c7
          refine lv_iconst (v := 0) hx hb dX10_turns_28 (by decide) ?_
          refine lv_istore_n (lv' := [(1, .int (0 : Int32)), (0, .ref h_p0), (2, .int v2)]) hx hb dX10_turns_29 rfl hl (by decide) rfl (fun ls hl => ?_)
          obtain ⟨x9, ex9⟩ : ∃ y : Int32, y = v2 + (1 : Int32) := ⟨_, rfl⟩
          have hw := hw x9 ex9
          refine lv_iinc (v := x9) (lv' := [(2, .int x9), (1, .int (0 : Int32)), (0, .ref h_p0)]) hx hb dX10_turns_30 hl (k := 2) rfl (by rw [ex9]; rfl) (by decide) rfl (fun ls hl => ?_)
          refine lv_goto (tgt := 4) hx hb dX10_turns_33 (by decide) ?_
          exact ih _ _ hw _ _ _ hP hD hS (lv_sub hl [2, 1, 0] rfl)
        · have hw := hw.2 c8
          refine lv_iconst (v := 1) hx hb dX10_turns_24 (by decide) ?_
          refine lv_goto (tgt := 29) hx hb dX10_turns_25 (by decide) ?_
          refine lv_istore_n (lv' := [(1, .int (1 : Int32)), (0, .ref h_p0), (2, .int v2)]) hx hb dX10_turns_29 rfl hl (by decide) rfl (fun ls hl => ?_)
          obtain ⟨x10, ex10⟩ : ∃ y : Int32, y = v2 + (1 : Int32) := ⟨_, rfl⟩
          have hw := hw x10 ex10
          refine lv_iinc (v := x10) (lv' := [(2, .int x10), (1, .int (1 : Int32)), (0, .ref h_p0)]) hx hb dX10_turns_30 hl (k := 2) rfl (by rw [ex10]; rfl) (by decide) rfl (fun ls hl => ?_)
          refine lv_goto (tgt := 4) hx hb dX10_turns_33 (by decide) ?_
          exact ih _ _ hw _ _ _ hP hD hS (lv_sub hl [2, 1, 0] rfl)
set_option maxHeartbeats 4000000 in
set_option maxRecDepth 100000 in
theorem c_X10_turns_L51 {p : Program} {l : Launch} {e : Env} {s : State} {m : MethodId} {args : Array Value} {below : List Frame} {meth : Method} {c : Code} {dC : Nat → ClassId} {dI : Nat → Nat → Nat} {A : Nat → Prop} {cI cJ cZ : ClassId} {h_p0 : Nat} {ad_p0 : Nat → Nat} {p0_places : Int32} {p0_steps : Int32} {p0_pastFirst : Int32} {p0_past : Int32} {p0_goings : Int32} {p0_rowSize : Int32} {p0_ways : Int32} {p0_hasField : Int32} {p0_fieldSize : Int32} {p0_faultNow : Int32} {p0_hasTree : Int32} {p0_treeSize : Int32} {p0_weightCount : Int32} {p0_roundCount : Int32} {p0_setCount : Int32} {p0_puts : Nat → Int32} {p0_row : Nat → Int32} {p0_takes : Nat → Int32} {v1 : Int32} {v2 : Int32}  {post : Int32 → Prop} {K : (Int64) → (Int32) → Prop} (E0 : xEnv p s m args meth c cX10_turns (some .int) 6 RX10 wsX10_turns (dC, dI) cI cJ cZ A) (hk : ∀ (v3 : Int64) (v5 : Int32) (H : Heap) (locs : List Loc) (ls : Array Slot), K v3 v5 → va_P (dC, dI) vwCl (wld_X10_turns cI cJ cZ h_p0 ad_p0 p0_places p0_steps p0_pastFirst p0_past p0_goings p0_rowSize p0_ways p0_hasField p0_fieldSize p0_faultNow p0_hasTree p0_treeSize p0_weightCount p0_roundCount p0_setCount p0_puts p0_row p0_takes) H → va_D A (wld_X10_turns cI cJ cZ h_p0 ad_p0 p0_places p0_steps p0_pastFirst p0_past p0_goings p0_rowSize p0_ways p0_hasField p0_fieldSize p0_faultNow p0_hasTree p0_treeSize p0_weightCount p0_roundCount p0_setCount p0_puts p0_row p0_takes) → va_S A s.heap H locs → lv_has ls 6 [(0, .ref h_p0), (1, .int v1), (2, .int v2), (3, .long v3)] → W p l e ({ frames := 1, cells := 0, slots := 0, locals := 22 }) s m args below meth c H locs 0 0 (MQ below (q_X10_turns dC dI cI cJ cZ h_p0 ad_p0 p0_places p0_steps p0_pastFirst p0_past p0_goings p0_rowSize p0_ways p0_hasField p0_fieldSize p0_faultNow p0_hasTree p0_treeSize p0_weightCount p0_roundCount p0_setCount p0_puts p0_row p0_takes post A) args s 0 0 A) (F0 m 85 ls [])) : ∀ (n : Nat) (v3 : Int64) (v5 : Int32), w_X10_turns_L51 v1 v2 p0_places p0_rowSize p0_steps p0_puts p0_row p0_takes post K n v3 v5 → ∀ (H : Heap) (locs : List Loc) (ls : Array Slot), va_P (dC, dI) vwCl (wld_X10_turns cI cJ cZ h_p0 ad_p0 p0_places p0_steps p0_pastFirst p0_past p0_goings p0_rowSize p0_ways p0_hasField p0_fieldSize p0_faultNow p0_hasTree p0_treeSize p0_weightCount p0_roundCount p0_setCount p0_puts p0_row p0_takes) H → va_D A (wld_X10_turns cI cJ cZ h_p0 ad_p0 p0_places p0_steps p0_pastFirst p0_past p0_goings p0_rowSize p0_ways p0_hasField p0_fieldSize p0_faultNow p0_hasTree p0_treeSize p0_weightCount p0_roundCount p0_setCount p0_puts p0_row p0_takes) → va_S A s.heap H locs → lv_has ls 6 [(0, .ref h_p0), (1, .int v1), (2, .int v2), (3, .long v3), (5, .int v5)] → W p l e ({ frames := 1, cells := 0, slots := 0, locals := 22 }) s m args below meth c H locs 0 0 (MQ below (q_X10_turns dC dI cI cJ cZ h_p0 ad_p0 p0_places p0_steps p0_pastFirst p0_past p0_goings p0_rowSize p0_ways p0_hasField p0_fieldSize p0_faultNow p0_hasTree p0_treeSize p0_weightCount p0_roundCount p0_setCount p0_puts p0_row p0_takes post A) args s 0 0 A) (F0 m 51 ls []) := by
  obtain ⟨hx, hb, hr, hml, hown, hts, hlocks, hK, hA, n1, n2⟩ := id E0
  have iX10 : ∀ w ∈ u_ws RX10 TX10 50, w ∈ wsX10_turns := fun w h => List.mem_cons_of_mem _ (List.mem_append_right _ h)
  intro n
  induction n with
  | zero => intro v3 v5 hw; exact hw.elim
  | succ n ih =>
    intro v3 v5 hw H locs ls hP hD hS hl
    have hw : w_X10_turns_L51b v1 v2 p0_places p0_rowSize p0_steps p0_puts p0_row p0_takes post K (w_X10_turns_L51 v1 v2 p0_places p0_rowSize p0_steps p0_puts p0_row p0_takes post K n) v3 v5 := hw
    unfold w_X10_turns_L51b at hw
    refine lv_iload hx hb dX10_turns_51 (lv_at hl 4 rfl) ?_
    refine lv_aload_n hx hb dX10_turns_53 rfl (lv_at hl 0 rfl) ?_
    refine va_get (D := (dC, dI)) (ci := 10) (v := .int p0_steps) (C := RX10) (T := TX10) (N := 50) hx hb hts iX10 hown hK hP 0 rfl rfl 1 (by decide) (hts (.fieldLink RX10 130 "NetHouseModel" "steps" "I") (by decide +kernel)) (fun _ h9 => h9) rfl dX10_turns_54 ?_
    refine lv_icmp_ge (tgt := 85) hx hb dX10_turns_57 (by decide) (fun c16 => ?_) (fun c17 => ?_)
    · have hw := hw.1 c16
      exact hk _ _ _ _ _ hw hP hD hS (lv_sub hl [0, 1, 2, 3] rfl)
    · have hw := hw.2 c17
      refine lv_lload_n hx hb dX10_turns_60 rfl (lv_at hl 3 rfl) ?_
      refine lv_aload_n hx hb dX10_turns_61 rfl (lv_at hl 0 rfl) ?_
      refine lv_iload hx hb dX10_turns_62 (lv_at hl 4 rfl) ?_
      obtain ⟨hPc, hDc⟩ := x_sub (wc := (wld_X10_told cI cJ cZ h_p0 ad_p0 p0_places p0_steps p0_pastFirst p0_past p0_goings p0_rowSize p0_ways p0_hasField p0_fieldSize p0_faultNow p0_hasTree p0_treeSize p0_weightCount p0_roundCount p0_setCount p0_row)) hP hD [0, 2] (n := 4) rfl rfl (by decide +kernel)
      refine x_calli (ws' := fun (u : Unit) => (wld_X10_turns cI cJ cZ h_p0 ad_p0 p0_places p0_steps p0_pastFirst p0_past p0_goings p0_rowSize p0_ways p0_hasField p0_fieldSize p0_faultNow p0_hasTree p0_treeSize p0_weightCount p0_roundCount p0_setCount p0_puts p0_row p0_takes)) hP hD hS hA [0, 2] [1, 3] [2, 0, 3, 1] (n := 4) (k := 2) rfl (fun _ => rfl) rfl (by decide +kernel) (fun _ => rfl) (va_runV (As := [.int v5]) (rest := [.long v3]) ⟨hx, hb, hml, hown, hts⟩ (c_X10_told (l := l) (dC := dC) (dI := dI) (cI := cI) (cJ := cJ) (cZ := cZ) (sz := H.size) (h_p0 := h_p0) (ad_p0 := ad_p0) (p0_places := p0_places) (p0_steps := p0_steps) (p0_pastFirst := p0_pastFirst) (p0_past := p0_past) (p0_goings := p0_goings) (p0_rowSize := p0_rowSize) (p0_ways := p0_ways) (p0_hasField := p0_hasField) (p0_fieldSize := p0_fieldSize) (p0_faultNow := p0_faultNow) (p0_hasTree := p0_hasTree) (p0_treeSize := p0_treeSize) (p0_weightCount := p0_weightCount) (p0_roundCount := p0_roundCount) (p0_setCount := p0_setCount) (p0_row := p0_row) hw) (cwV 1 hts gX10_turns_X10_told rfl rfl rfl (by decide +kernel) ⟨Nat.le_of_ble_eq_true rfl, Nat.le_of_ble_eq_true rfl⟩) ⟨xPre_blind, va_recv hK hP (ci := 10) (q0 := 0) rfl rfl, xPre_at hK hPc hDc n1 n2⟩ rfl rfl hl.1 rfl (lv_room (Nat.le_of_ble_eq_true rfl)) dX10_turns_64 ⟨Nat.zero_le _, Nat.zero_le _⟩) (fun r18 u H locs hw hP hD hS => ?_)
      try dsimp only at hw
      have hP : va_P (dC, dI) vwCl (wld_X10_turns cI cJ cZ h_p0 ad_p0 p0_places p0_steps p0_pastFirst p0_past p0_goings p0_rowSize p0_ways p0_hasField p0_fieldSize p0_faultNow p0_hasTree p0_treeSize p0_weightCount p0_roundCount p0_setCount p0_puts p0_row p0_takes) H := hP
      have hD : va_D A (wld_X10_turns cI cJ cZ h_p0 ad_p0 p0_places p0_steps p0_pastFirst p0_past p0_goings p0_rowSize p0_ways p0_hasField p0_fieldSize p0_faultNow p0_hasTree p0_treeSize p0_weightCount p0_roundCount p0_setCount p0_puts p0_row p0_takes) := hD
      refine lv_i2l hx hb dX10_turns_67 rfl ?_
      refine lv_aload_n hx hb dX10_turns_68 rfl (lv_at hl 0 rfl) ?_
      refine lv_iload hx hb dX10_turns_69 (lv_at hl 4 rfl) ?_
      refine lv_iload_n hx hb dX10_turns_71 rfl (lv_at hl 2 rfl) ?_
      obtain ⟨hPc, hDc⟩ := x_sub (wc := (wld_X10_change cI cJ cZ h_p0 ad_p0 p0_places p0_steps p0_pastFirst p0_past p0_goings p0_rowSize p0_ways p0_hasField p0_fieldSize p0_faultNow p0_hasTree p0_treeSize p0_weightCount p0_roundCount p0_setCount p0_puts p0_takes)) hP hD [0, 1, 3] (n := 4) rfl rfl (by decide +kernel)
      refine x_calli (ws' := fun (u : Unit) => (wld_X10_turns cI cJ cZ h_p0 ad_p0 p0_places p0_steps p0_pastFirst p0_past p0_goings p0_rowSize p0_ways p0_hasField p0_fieldSize p0_faultNow p0_hasTree p0_treeSize p0_weightCount p0_roundCount p0_setCount p0_puts p0_row p0_takes)) hP hD hS hA [0, 1, 3] [2] [1, 2, 0, 3] (n := 4) (k := 3) rfl (fun _ => rfl) rfl (by decide +kernel) (fun _ => rfl) (va_runV (As := [.int v5, .int v2]) (rest := [.long r18.toInt64, .long v3]) ⟨hx, hb, hml, hown, hts⟩ (c_X10_change (l := l) (dC := dC) (dI := dI) (cI := cI) (cJ := cJ) (cZ := cZ) (sz := H.size) (h_p0 := h_p0) (ad_p0 := ad_p0) (p0_places := p0_places) (p0_steps := p0_steps) (p0_pastFirst := p0_pastFirst) (p0_past := p0_past) (p0_goings := p0_goings) (p0_rowSize := p0_rowSize) (p0_ways := p0_ways) (p0_hasField := p0_hasField) (p0_fieldSize := p0_fieldSize) (p0_faultNow := p0_faultNow) (p0_hasTree := p0_hasTree) (p0_treeSize := p0_treeSize) (p0_weightCount := p0_weightCount) (p0_roundCount := p0_roundCount) (p0_setCount := p0_setCount) (p0_puts := p0_puts) (p0_takes := p0_takes) hw) (cwV 2 hts gX10_turns_X10_change rfl rfl rfl (by decide +kernel) ⟨Nat.le_of_ble_eq_true rfl, Nat.le_of_ble_eq_true rfl⟩) ⟨xPre_blind, va_recv hK hP (ci := 10) (q0 := 0) rfl rfl, xPre_at hK hPc hDc n1 n2⟩ rfl rfl hl.1 rfl (lv_room (Nat.le_of_ble_eq_true rfl)) dX10_turns_72 ⟨Nat.zero_le _, Nat.zero_le _⟩) (fun r19 u H locs hw hP hD hS => ?_)
      try dsimp only at hw
      have hP : va_P (dC, dI) vwCl (wld_X10_turns cI cJ cZ h_p0 ad_p0 p0_places p0_steps p0_pastFirst p0_past p0_goings p0_rowSize p0_ways p0_hasField p0_fieldSize p0_faultNow p0_hasTree p0_treeSize p0_weightCount p0_roundCount p0_setCount p0_puts p0_row p0_takes) H := hP
      have hD : va_D A (wld_X10_turns cI cJ cZ h_p0 ad_p0 p0_places p0_steps p0_pastFirst p0_past p0_goings p0_rowSize p0_ways p0_hasField p0_fieldSize p0_faultNow p0_hasTree p0_treeSize p0_weightCount p0_roundCount p0_setCount p0_puts p0_row p0_takes) := hD
      refine lv_i2l hx hb dX10_turns_75 rfl ?_
      refine lv_lmul hx hb dX10_turns_76 ?_
      refine lv_ladd hx hb dX10_turns_77 ?_
      refine lv_topl (fun x20 ex20 => ?_)
      have hw := hw x20 ex20
      refine lv_lstore_n (lv' := [(3, .long x20), (0, .ref h_p0), (1, .int v1), (2, .int v2), (5, .int v5)]) hx hb dX10_turns_78 rfl hl (by decide) rfl (fun ls hl => ?_)
      obtain ⟨x21, ex21⟩ : ∃ y : Int32, y = v5 + (1 : Int32) := ⟨_, rfl⟩
      have hw := hw x21 ex21
      refine lv_iinc (v := x21) (lv' := [(5, .int x21), (3, .long x20), (0, .ref h_p0), (1, .int v1), (2, .int v2)]) hx hb dX10_turns_79 hl (k := 4) rfl (by rw [ex21]; rfl) (by decide) rfl (fun ls hl => ?_)
      refine lv_goto (tgt := 51) hx hb dX10_turns_82 (by decide) ?_
      exact ih _ _ hw _ _ _ hP hD hS (lv_sub hl [2, 3, 4, 1, 0] rfl)
set_option maxHeartbeats 4000000 in
set_option maxRecDepth 100000 in
theorem c_X10_turns_L38 {p : Program} {l : Launch} {e : Env} {s : State} {m : MethodId} {args : Array Value} {below : List Frame} {meth : Method} {c : Code} {dC : Nat → ClassId} {dI : Nat → Nat → Nat} {A : Nat → Prop} {cI cJ cZ : ClassId} {h_p0 : Nat} {ad_p0 : Nat → Nat} {p0_places : Int32} {p0_steps : Int32} {p0_pastFirst : Int32} {p0_past : Int32} {p0_goings : Int32} {p0_rowSize : Int32} {p0_ways : Int32} {p0_hasField : Int32} {p0_fieldSize : Int32} {p0_faultNow : Int32} {p0_hasTree : Int32} {p0_treeSize : Int32} {p0_weightCount : Int32} {p0_roundCount : Int32} {p0_setCount : Int32} {p0_puts : Nat → Int32} {p0_row : Nat → Int32} {p0_takes : Nat → Int32}  {post : Int32 → Prop} {K : (Int32) → (Int32) → Prop} (E0 : xEnv p s m args meth c cX10_turns (some .int) 6 RX10 wsX10_turns (dC, dI) cI cJ cZ A) (hk : ∀ (v1 : Int32) (v2 : Int32) (H : Heap) (locs : List Loc) (ls : Array Slot), K v1 v2 → va_P (dC, dI) vwCl (wld_X10_turns cI cJ cZ h_p0 ad_p0 p0_places p0_steps p0_pastFirst p0_past p0_goings p0_rowSize p0_ways p0_hasField p0_fieldSize p0_faultNow p0_hasTree p0_treeSize p0_weightCount p0_roundCount p0_setCount p0_puts p0_row p0_takes) H → va_D A (wld_X10_turns cI cJ cZ h_p0 ad_p0 p0_places p0_steps p0_pastFirst p0_past p0_goings p0_rowSize p0_ways p0_hasField p0_fieldSize p0_faultNow p0_hasTree p0_treeSize p0_weightCount p0_roundCount p0_setCount p0_puts p0_row p0_takes) → va_S A s.heap H locs → lv_has ls 6 [(1, .int v1)] → W p l e ({ frames := 1, cells := 0, slots := 0, locals := 22 }) s m args below meth c H locs 0 0 (MQ below (q_X10_turns dC dI cI cJ cZ h_p0 ad_p0 p0_places p0_steps p0_pastFirst p0_past p0_goings p0_rowSize p0_ways p0_hasField p0_fieldSize p0_faultNow p0_hasTree p0_treeSize p0_weightCount p0_roundCount p0_setCount p0_puts p0_row p0_takes post A) args s 0 0 A) (F0 m 107 ls [])) : ∀ (n : Nat) (v1 : Int32) (v2 : Int32), w_X10_turns_L38 p0_places p0_rowSize p0_steps p0_puts p0_row p0_takes post K n v1 v2 → ∀ (H : Heap) (locs : List Loc) (ls : Array Slot), va_P (dC, dI) vwCl (wld_X10_turns cI cJ cZ h_p0 ad_p0 p0_places p0_steps p0_pastFirst p0_past p0_goings p0_rowSize p0_ways p0_hasField p0_fieldSize p0_faultNow p0_hasTree p0_treeSize p0_weightCount p0_roundCount p0_setCount p0_puts p0_row p0_takes) H → va_D A (wld_X10_turns cI cJ cZ h_p0 ad_p0 p0_places p0_steps p0_pastFirst p0_past p0_goings p0_rowSize p0_ways p0_hasField p0_fieldSize p0_faultNow p0_hasTree p0_treeSize p0_weightCount p0_roundCount p0_setCount p0_puts p0_row p0_takes) → va_S A s.heap H locs → lv_has ls 6 [(0, .ref h_p0), (1, .int v1), (2, .int v2)] → W p l e ({ frames := 1, cells := 0, slots := 0, locals := 22 }) s m args below meth c H locs 0 0 (MQ below (q_X10_turns dC dI cI cJ cZ h_p0 ad_p0 p0_places p0_steps p0_pastFirst p0_past p0_goings p0_rowSize p0_ways p0_hasField p0_fieldSize p0_faultNow p0_hasTree p0_treeSize p0_weightCount p0_roundCount p0_setCount p0_puts p0_row p0_takes post A) args s 0 0 A) (F0 m 38 ls []) := by
  obtain ⟨hx, hb, hr, hml, hown, hts, hlocks, hK, hA, n1, n2⟩ := id E0
  have iX10 : ∀ w ∈ u_ws RX10 TX10 50, w ∈ wsX10_turns := fun w h => List.mem_cons_of_mem _ (List.mem_append_right _ h)
  intro n
  induction n with
  | zero => intro v1 v2 hw; exact hw.elim
  | succ n ih =>
    intro v1 v2 hw H locs ls hP hD hS hl
    have hw : w_X10_turns_L38b p0_places p0_rowSize p0_steps p0_puts p0_row p0_takes post K (w_X10_turns_L38 p0_places p0_rowSize p0_steps p0_puts p0_row p0_takes post K n) v1 v2 := hw
    unfold w_X10_turns_L38b at hw
    refine lv_iload_n hx hb dX10_turns_38 rfl (lv_at hl 2 rfl) ?_
    refine lv_aload_n hx hb dX10_turns_39 rfl (lv_at hl 0 rfl) ?_
    refine va_get (D := (dC, dI)) (ci := 10) (v := .int p0_places) (C := RX10) (T := TX10) (N := 50) hx hb hts iX10 hown hK hP 0 rfl rfl 0 (by decide) (hts (.fieldLink RX10 127 "NetHouseModel" "places" "I") (by decide +kernel)) (fun _ h9 => h9) rfl dX10_turns_40 ?_
    refine lv_icmp_ge (tgt := 107) hx hb dX10_turns_43 (by decide) (fun c14 => ?_) (fun c15 => ?_)
    · have hw := hw.1 c14
      exact hk _ _ _ _ _ hw hP hD hS (lv_sub hl [1] rfl)
    · have hw := hw.2 c15
      refine lv_lconst (v := 0) hx hb dX10_turns_46 (by decide) ?_
      refine lv_lstore_n (lv' := [(3, .long (0 : Int64)), (0, .ref h_p0), (1, .int v1), (2, .int v2)]) hx hb dX10_turns_47 rfl hl (by decide) rfl (fun ls hl => ?_)
      refine lv_iconst (v := 0) hx hb dX10_turns_48 (by decide) ?_
      refine lv_istore (lv' := [(5, .int (0 : Int32)), (3, .long (0 : Int64)), (0, .ref h_p0), (1, .int v1), (2, .int v2)]) hx hb dX10_turns_49 hl (by decide) rfl (fun ls hl => ?_)
      obtain ⟨n22, hw⟩ := hw
      refine c_X10_turns_L51 (l := l)  E0 ?_ n22 _ _ hw _ _ _ hP hD hS (lv_sub hl [2, 3, 4, 1, 0] rfl)
      · intro v23 v24 H locs ls hw hP hD hS hl
        have hP : va_P (dC, dI) vwCl (wld_X10_turns cI cJ cZ h_p0 ad_p0 p0_places p0_steps p0_pastFirst p0_past p0_goings p0_rowSize p0_ways p0_hasField p0_fieldSize p0_faultNow p0_hasTree p0_treeSize p0_weightCount p0_roundCount p0_setCount p0_puts p0_row p0_takes) H := hP
        have hD : va_D A (wld_X10_turns cI cJ cZ h_p0 ad_p0 p0_places p0_steps p0_pastFirst p0_past p0_goings p0_rowSize p0_ways p0_hasField p0_fieldSize p0_faultNow p0_hasTree p0_treeSize p0_weightCount p0_roundCount p0_setCount p0_puts p0_row p0_takes) := hD
        refine lv_iload_n hx hb dX10_turns_85 rfl (lv_at hl 1 rfl) ?_
        refine lv_if_eq (tgt := 99) hx hb dX10_turns_86 (by decide) (fun c25 => ?_) (fun c26 => ?_)
        · have hw := hw.1 c25
          refine lv_iconst (v := 0) hx hb dX10_turns_99 (by decide) ?_
          refine lv_istore_n (lv' := [(1, .int (0 : Int32)), (0, .ref h_p0), (2, .int v2), (3, .long v23)]) hx hb dX10_turns_100 rfl hl (by decide) rfl (fun ls hl => ?_)
          obtain ⟨x27, ex27⟩ : ∃ y : Int32, y = v2 + (1 : Int32) := ⟨_, rfl⟩
          have hw := hw x27 ex27
          refine lv_iinc (v := x27) (lv' := [(2, .int x27), (1, .int (0 : Int32)), (0, .ref h_p0), (3, .long v23)]) hx hb dX10_turns_101 hl (k := 2) rfl (by rw [ex27]; rfl) (by decide) rfl (fun ls hl => ?_)
          refine lv_goto (tgt := 38) hx hb dX10_turns_104 (by decide) ?_
          exact ih _ _ hw _ _ _ hP hD hS (lv_sub hl [2, 1, 0] rfl)
        · have hw := hw.2 c26
          refine lv_lload_n hx hb dX10_turns_89 rfl (lv_at hl 3 rfl) ?_
          refine lv_lconst (v := 0) hx hb dX10_turns_90 (by decide) ?_
          refine W.lcmp hx hb dX10_turns_91 ?_
          refine lv_if_ne (tgt := 99) hx hb dX10_turns_92 (by decide) (fun c28 => ?_) (fun c29 => ?_)
          · have hw := hw.1 c28
            refine lv_iconst (v := 0) hx hb dX10_turns_99 (by decide) ?_
            refine lv_istore_n (lv' := [(1, .int (0 : Int32)), (0, .ref h_p0), (2, .int v2), (3, .long v23)]) hx hb dX10_turns_100 rfl hl (by decide) rfl (fun ls hl => ?_)
            obtain ⟨x30, ex30⟩ : ∃ y : Int32, y = v2 + (1 : Int32) := ⟨_, rfl⟩
            have hw := hw x30 ex30
            refine lv_iinc (v := x30) (lv' := [(2, .int x30), (1, .int (0 : Int32)), (0, .ref h_p0), (3, .long v23)]) hx hb dX10_turns_101 hl (k := 2) rfl (by rw [ex30]; rfl) (by decide) rfl (fun ls hl => ?_)
            refine lv_goto (tgt := 38) hx hb dX10_turns_104 (by decide) ?_
            exact ih _ _ hw _ _ _ hP hD hS (lv_sub hl [2, 1, 0] rfl)
          · have hw := hw.2 c29
            refine lv_iconst (v := 1) hx hb dX10_turns_95 (by decide) ?_
            refine lv_goto (tgt := 100) hx hb dX10_turns_96 (by decide) ?_
            refine lv_istore_n (lv' := [(1, .int (1 : Int32)), (0, .ref h_p0), (2, .int v2), (3, .long v23)]) hx hb dX10_turns_100 rfl hl (by decide) rfl (fun ls hl => ?_)
            obtain ⟨x31, ex31⟩ : ∃ y : Int32, y = v2 + (1 : Int32) := ⟨_, rfl⟩
            have hw := hw x31 ex31
            refine lv_iinc (v := x31) (lv' := [(2, .int x31), (1, .int (1 : Int32)), (0, .ref h_p0), (3, .long v23)]) hx hb dX10_turns_101 hl (k := 2) rfl (by rw [ex31]; rfl) (by decide) rfl (fun ls hl => ?_)
            refine lv_goto (tgt := 38) hx hb dX10_turns_104 (by decide) ?_
            exact ih _ _ hw _ _ _ hP hD hS (lv_sub hl [2, 1, 0] rfl)
set_option maxHeartbeats 4000000 in
set_option maxRecDepth 100000 in
theorem c_X10_turns {l : Launch} {dC : Nat → ClassId} {dI : Nat → Nat → Nat} {sz : Nat} {cI cJ cZ : ClassId} {h_p0 : Nat} {ad_p0 : Nat → Nat} {p0_places : Int32} {p0_steps : Int32} {p0_pastFirst : Int32} {p0_past : Int32} {p0_goings : Int32} {p0_rowSize : Int32} {p0_ways : Int32} {p0_hasField : Int32} {p0_fieldSize : Int32} {p0_faultNow : Int32} {p0_hasTree : Int32} {p0_treeSize : Int32} {p0_weightCount : Int32} {p0_roundCount : Int32} {p0_setCount : Int32} {p0_puts : Nat → Int32} {p0_row : Nat → Int32} {p0_takes : Nat → Int32}  {post : Int32 → Prop} (hw : w_X10_turns p0_places p0_rowSize p0_steps p0_puts p0_row p0_takes post) : Met l yX10_turns wsX10_turns ({ frames := 1, cells := 0, slots := 0, locals := 22 }) (va_Pc [.ref h_p0] (xPre (dC, dI) cI cJ cZ (wld_X10_turns cI cJ cZ h_p0 ad_p0 p0_places p0_steps p0_pastFirst p0_past p0_goings p0_rowSize p0_ways p0_hasField p0_fieldSize p0_faultNow p0_hasTree p0_treeSize p0_weightCount p0_roundCount p0_setCount p0_puts p0_row p0_takes) sz)) (q_X10_turns dC dI cI cJ cZ h_p0 ad_p0 p0_places p0_steps p0_pastFirst p0_past p0_goings p0_rowSize p0_ways p0_hasField p0_fieldSize p0_faultNow p0_hasTree p0_treeSize p0_weightCount p0_roundCount p0_setCount p0_puts p0_row p0_takes post (va_A (wld_X10_turns cI cJ cZ h_p0 ad_p0 p0_places p0_steps p0_pastFirst p0_past p0_goings p0_rowSize p0_ways p0_hasField p0_fieldSize p0_faultNow p0_hasTree p0_treeSize p0_weightCount p0_roundCount p0_setCount p0_puts p0_row p0_takes) sz)) 0 0 (va_A (wld_X10_turns cI cJ cZ h_p0 ad_p0 p0_places p0_steps p0_pastFirst p0_past p0_goings p0_rowSize p0_ways p0_hasField p0_fieldSize p0_faultNow p0_hasTree p0_treeSize p0_weightCount p0_roundCount p0_setCount p0_puts p0_row p0_takes) sz) := by
  refine x_met (cc := cX10_turns) (maxL := 6) (ret := (some .int)) (own := RX10) (Qc := fun A => (q_X10_turns dC dI cI cJ cZ h_p0 ad_p0 p0_places p0_steps p0_pastFirst p0_past p0_goings p0_rowSize p0_ways p0_hasField p0_fieldSize p0_faultNow p0_hasTree p0_treeSize p0_weightCount p0_roundCount p0_setCount p0_puts p0_row p0_takes post A)) (by decide) rfl rfl (Nat.le_of_ble_eq_true rfl) ?_
  intro p e s m args below meth c A ls E0 hP hD hS hl
  obtain ⟨hx, hb, hr, hml, hown, hts, hlocks, hK, hA, n1, n2⟩ := id E0
  have iX10 : ∀ w ∈ u_ws RX10 TX10 50, w ∈ wsX10_turns := fun w h => List.mem_cons_of_mem _ (List.mem_append_right _ h)
  have hS0 := hS
  have hl : lv_has ls 6 [(0, .ref h_p0)] := hl
  unfold w_X10_turns at hw
  obtain ⟨H, hH⟩ : ∃ H, H = s.heap := ⟨_, rfl⟩
  have hS : va_S A s.heap H [] := by rw [hH]; exact hS
  have hP : va_P (dC, dI) vwCl (wld_X10_turns cI cJ cZ h_p0 ad_p0 p0_places p0_steps p0_pastFirst p0_past p0_goings p0_rowSize p0_ways p0_hasField p0_fieldSize p0_faultNow p0_hasTree p0_treeSize p0_weightCount p0_roundCount p0_setCount p0_puts p0_row p0_takes) H := by rw [hH]; exact hP
  suffices hG : W p l e ({ frames := 1, cells := 0, slots := 0, locals := 22 }) s m args below meth c H [] 0 0 (MQ below (q_X10_turns dC dI cI cJ cZ h_p0 ad_p0 p0_places p0_steps p0_pastFirst p0_past p0_goings p0_rowSize p0_ways p0_hasField p0_fieldSize p0_faultNow p0_hasTree p0_treeSize p0_weightCount p0_roundCount p0_setCount p0_puts p0_row p0_takes post A) args s 0 0 A) (F0 m 0 ls []) by rw [hH] at hG; exact hG
  clear hH
  refine lv_iconst (v := 1) hx hb dX10_turns_0 (by decide) ?_
  refine lv_istore_n (lv' := [(1, .int (1 : Int32)), (0, .ref h_p0)]) hx hb dX10_turns_1 rfl hl (by decide) rfl (fun ls hl => ?_)
  refine lv_iconst (v := 0) hx hb dX10_turns_2 (by decide) ?_
  refine lv_istore_n (lv' := [(2, .int (0 : Int32)), (1, .int (1 : Int32)), (0, .ref h_p0)]) hx hb dX10_turns_3 rfl hl (by decide) rfl (fun ls hl => ?_)
  obtain ⟨n11, hw⟩ := hw
  refine c_X10_turns_L4 (l := l)  E0 ?_ n11 _ _ hw _ _ _ hP hD hS (lv_sub hl [2, 1, 0] rfl)
  · intro v12 v13 H locs ls hw hP hD hS hl
    have hP : va_P (dC, dI) vwCl (wld_X10_turns cI cJ cZ h_p0 ad_p0 p0_places p0_steps p0_pastFirst p0_past p0_goings p0_rowSize p0_ways p0_hasField p0_fieldSize p0_faultNow p0_hasTree p0_treeSize p0_weightCount p0_roundCount p0_setCount p0_puts p0_row p0_takes) H := hP
    have hD : va_D A (wld_X10_turns cI cJ cZ h_p0 ad_p0 p0_places p0_steps p0_pastFirst p0_past p0_goings p0_rowSize p0_ways p0_hasField p0_fieldSize p0_faultNow p0_hasTree p0_treeSize p0_weightCount p0_roundCount p0_setCount p0_puts p0_row p0_takes) := hD
    refine lv_iconst (v := 0) hx hb dX10_turns_36 (by decide) ?_
    refine lv_istore_n (lv' := [(2, .int (0 : Int32)), (0, .ref h_p0), (1, .int v12)]) hx hb dX10_turns_37 rfl hl (by decide) rfl (fun ls hl => ?_)
    obtain ⟨n32, hw⟩ := hw
    refine c_X10_turns_L38 (l := l)  E0 ?_ n32 _ _ hw _ _ _ hP hD hS (lv_sub hl [1, 2, 0] rfl)
    · intro v33 v34 H locs ls hw hP hD hS hl
      have hP : va_P (dC, dI) vwCl (wld_X10_turns cI cJ cZ h_p0 ad_p0 p0_places p0_steps p0_pastFirst p0_past p0_goings p0_rowSize p0_ways p0_hasField p0_fieldSize p0_faultNow p0_hasTree p0_treeSize p0_weightCount p0_roundCount p0_setCount p0_puts p0_row p0_takes) H := hP
      have hD : va_D A (wld_X10_turns cI cJ cZ h_p0 ad_p0 p0_places p0_steps p0_pastFirst p0_past p0_goings p0_rowSize p0_ways p0_hasField p0_fieldSize p0_faultNow p0_hasTree p0_treeSize p0_weightCount p0_roundCount p0_setCount p0_puts p0_row p0_takes) := hD
      refine lv_iload_n hx hb dX10_turns_107 rfl (lv_at hl 0 rfl) ?_
      refine lv_if_eq (tgt := 115) hx hb dX10_turns_108 (by decide) (fun c35 => ?_) (fun c36 => ?_)
      · have hw := hw.1 c35
        refine lv_iconst (v := 0) hx hb dX10_turns_115 (by decide) ?_
        exact x_iret (w1 := fun (u : Unit) => (wld_X10_turns cI cJ cZ h_p0 ad_p0 p0_places p0_steps p0_pastFirst p0_past p0_goings p0_rowSize p0_ways p0_hasField p0_fieldSize p0_faultNow p0_hasTree p0_treeSize p0_weightCount p0_roundCount p0_setCount p0_puts p0_row p0_takes)) hx hb hr hlocks () hw hP hD hS dX10_turns_116
      · have hw := hw.2 c36
        refine lv_iconst (v := 1) hx hb dX10_turns_111 (by decide) ?_
        refine lv_goto (tgt := 116) hx hb dX10_turns_112 (by decide) ?_
        exact x_iret (w1 := fun (u : Unit) => (wld_X10_turns cI cJ cZ h_p0 ad_p0 p0_places p0_steps p0_pastFirst p0_past p0_goings p0_rowSize p0_ways p0_hasField p0_fieldSize p0_faultNow p0_hasTree p0_treeSize p0_weightCount p0_roundCount p0_setCount p0_puts p0_row p0_takes)) hx hb hr hlocks () hw hP hD hS dX10_turns_116
abbrev wld_X10_bitsOf (cI cJ cZ : ClassId) (h_p0 : Nat) (ad_p0 : Nat → Nat) (p0_places : Int32) (p0_steps : Int32) (p0_pastFirst : Int32) (p0_past : Int32) (p0_goings : Int32) (p0_rowSize : Int32) (p0_ways : Int32) (p0_hasField : Int32) (p0_fieldSize : Int32) (p0_faultNow : Int32) (p0_hasTree : Int32) (p0_treeSize : Int32) (p0_weightCount : Int32) (p0_roundCount : Int32) (p0_setCount : Int32) (p0_puts : Nat → Int32) (p0_takes : Nat → Int32) : va_W := [(h_p0, .inr (10, [.int p0_places, .int p0_steps, .ref (ad_p0 2), .ref (ad_p0 3), .ref (ad_p0 4), .ref (ad_p0 5), .ref (ad_p0 6), .ref (ad_p0 7), .ref (ad_p0 8), .ref (ad_p0 9), .ref (ad_p0 10), .ref (ad_p0 11), .ref (ad_p0 12), .ref (ad_p0 13), .ref (ad_p0 14), .int p0_pastFirst, .int p0_past, .int p0_goings, .int p0_rowSize, .ref (ad_p0 19), .ref (ad_p0 20), .int p0_ways, .ref (ad_p0 22), .ref (ad_p0 23), .int p0_hasField, .int p0_fieldSize, .ref (ad_p0 26), .ref (ad_p0 27), .ref (ad_p0 28), .ref (ad_p0 29), .ref (ad_p0 30), .ref (ad_p0 31), .ref (ad_p0 32), .int p0_faultNow, .int p0_hasTree, .int p0_treeSize, .ref (ad_p0 36), .ref (ad_p0 37), .ref (ad_p0 38), .ref (ad_p0 39), .ref (ad_p0 40), .ref (ad_p0 41), .ref (ad_p0 42), .int p0_weightCount, .ref (ad_p0 44), .int p0_roundCount, .ref (ad_p0 46), .int p0_setCount, .ref (ad_p0 48), .ref (ad_p0 49)])), ((ad_p0 5), .inl (cI, 256, .inl p0_puts)), ((ad_p0 4), .inl (cI, 256, .inl p0_takes))]
abbrev q_X10_bitsOf (dC : Nat → ClassId) (dI : Nat → Nat → Nat) (cI cJ cZ : ClassId) (h_p0 : Nat) (ad_p0 : Nat → Nat) (p0_places : Int32) (p0_steps : Int32) (p0_pastFirst : Int32) (p0_past : Int32) (p0_goings : Int32) (p0_rowSize : Int32) (p0_ways : Int32) (p0_hasField : Int32) (p0_fieldSize : Int32) (p0_faultNow : Int32) (p0_hasTree : Int32) (p0_treeSize : Int32) (p0_weightCount : Int32) (p0_roundCount : Int32) (p0_setCount : Int32) (p0_puts : Nat → Int32) (p0_takes : Nat → Int32) (post : Int32 → Prop) (A : Nat → Prop) : Array Value → State → Outcome → State → Prop := va_Qi (fun r (u : Unit) => post r ) (fun (u : Unit) t => xPost (dC, dI) A (wld_X10_bitsOf cI cJ cZ h_p0 ad_p0 p0_places p0_steps p0_pastFirst p0_past p0_goings p0_rowSize p0_ways p0_hasField p0_fieldSize p0_faultNow p0_hasTree p0_treeSize p0_weightCount p0_roundCount p0_setCount p0_puts p0_takes) t) A
def w_X10_bitsOf_L5b (v1 : Int32) (v2 : Int32) (p0_places : Int32) (p0_puts : Nat → Int32) (p0_takes : Nat → Int32) (post : Int32 → Prop) (K : (Int32) → (Int32) → Prop) (rec : (Int32) → (Int32) → Prop) (v3 : Int32) (v4 : Int32) : Prop :=
    (p0_places ≤ v4 →
      K v3 v4) ∧
    (¬ p0_places ≤ v4 →
      (v2 = 0 →
        vp_in (((16 : Int32) * v1) + v4) 256 ∧
        ∀ x5 : Int32, x5 = (p0_puts (((16 : Int32) * v1) + v4).toNatClampNeg) →
        (x5 ≤ 0 →
          ∀ x8 : Int32, x8 = (v3 ||| (0 : Int32)) →
          ∀ x9 : Int32, x9 = v4 + (1 : Int32) →
          rec x8 x9) ∧
        (¬ x5 ≤ 0 →
          ∀ x10 : Int32, x10 = (v3 ||| ((1 : Int32) <<< (v4 &&& 31))) →
          ∀ x11 : Int32, x11 = v4 + (1 : Int32) →
          rec x10 x11)) ∧
      (¬ v2 = 0 →
        vp_in (((16 : Int32) * v1) + v4) 256 ∧
        ∀ x12 : Int32, x12 = (p0_takes (((16 : Int32) * v1) + v4).toNatClampNeg) →
        (x12 ≤ 0 →
          ∀ x15 : Int32, x15 = (v3 ||| (0 : Int32)) →
          ∀ x16 : Int32, x16 = v4 + (1 : Int32) →
          rec x15 x16) ∧
        (¬ x12 ≤ 0 →
          ∀ x17 : Int32, x17 = (v3 ||| ((1 : Int32) <<< (v4 &&& 31))) →
          ∀ x18 : Int32, x18 = v4 + (1 : Int32) →
          rec x17 x18)))
def w_X10_bitsOf_L5 (v1 : Int32) (v2 : Int32) (p0_places : Int32) (p0_puts : Nat → Int32) (p0_takes : Nat → Int32) (post : Int32 → Prop) (K : (Int32) → (Int32) → Prop) : Nat → (Int32) → (Int32) → Prop
  | 0, _, _ => False
  | n + 1, v3, v4 => w_X10_bitsOf_L5b v1 v2 p0_places p0_puts p0_takes post K (w_X10_bitsOf_L5 v1 v2 p0_places p0_puts p0_takes post K n) v3 v4
def w_X10_bitsOf (p0_places : Int32) (p0_puts : Nat → Int32) (p0_takes : Nat → Int32) (a1 : Int32) (a2 : Int32) (post : Int32 → Prop) : Prop :=
  ∃ n : Nat, w_X10_bitsOf_L5 a1 a2 p0_places p0_puts p0_takes post (fun v20 v21 =>
      (post v20)) n (0 : Int32) (0 : Int32)
set_option maxHeartbeats 4000000 in
set_option maxRecDepth 100000 in
theorem c_X10_bitsOf_L5 {p : Program} {l : Launch} {e : Env} {s : State} {m : MethodId} {args : Array Value} {below : List Frame} {meth : Method} {c : Code} {dC : Nat → ClassId} {dI : Nat → Nat → Nat} {A : Nat → Prop} {cI cJ cZ : ClassId} {h_p0 : Nat} {ad_p0 : Nat → Nat} {p0_places : Int32} {p0_steps : Int32} {p0_pastFirst : Int32} {p0_past : Int32} {p0_goings : Int32} {p0_rowSize : Int32} {p0_ways : Int32} {p0_hasField : Int32} {p0_fieldSize : Int32} {p0_faultNow : Int32} {p0_hasTree : Int32} {p0_treeSize : Int32} {p0_weightCount : Int32} {p0_roundCount : Int32} {p0_setCount : Int32} {p0_puts : Nat → Int32} {p0_takes : Nat → Int32} {v1 : Int32} {v2 : Int32}  {post : Int32 → Prop} {K : (Int32) → (Int32) → Prop} (E0 : xEnv p s m args meth c cX10_bitsOf (some .int) 6 RX10 wsX10_bitsOf (dC, dI) cI cJ cZ A) (hk : ∀ (v3 : Int32) (v4 : Int32) (H : Heap) (locs : List Loc) (ls : Array Slot), K v3 v4 → va_P (dC, dI) vwCl (wld_X10_bitsOf cI cJ cZ h_p0 ad_p0 p0_places p0_steps p0_pastFirst p0_past p0_goings p0_rowSize p0_ways p0_hasField p0_fieldSize p0_faultNow p0_hasTree p0_treeSize p0_weightCount p0_roundCount p0_setCount p0_puts p0_takes) H → va_D A (wld_X10_bitsOf cI cJ cZ h_p0 ad_p0 p0_places p0_steps p0_pastFirst p0_past p0_goings p0_rowSize p0_ways p0_hasField p0_fieldSize p0_faultNow p0_hasTree p0_treeSize p0_weightCount p0_roundCount p0_setCount p0_puts p0_takes) → va_S A s.heap H locs → lv_has ls 6 [(3, .int v3)] → W p l e ({ frames := 0, cells := 0, slots := 0, locals := 0 }) s m args below meth c H locs 0 0 (MQ below (q_X10_bitsOf dC dI cI cJ cZ h_p0 ad_p0 p0_places p0_steps p0_pastFirst p0_past p0_goings p0_rowSize p0_ways p0_hasField p0_fieldSize p0_faultNow p0_hasTree p0_treeSize p0_weightCount p0_roundCount p0_setCount p0_puts p0_takes post A) args s 0 0 A) (F0 m 69 ls [])) : ∀ (n : Nat) (v3 : Int32) (v4 : Int32), w_X10_bitsOf_L5 v1 v2 p0_places p0_puts p0_takes post K n v3 v4 → ∀ (H : Heap) (locs : List Loc) (ls : Array Slot), va_P (dC, dI) vwCl (wld_X10_bitsOf cI cJ cZ h_p0 ad_p0 p0_places p0_steps p0_pastFirst p0_past p0_goings p0_rowSize p0_ways p0_hasField p0_fieldSize p0_faultNow p0_hasTree p0_treeSize p0_weightCount p0_roundCount p0_setCount p0_puts p0_takes) H → va_D A (wld_X10_bitsOf cI cJ cZ h_p0 ad_p0 p0_places p0_steps p0_pastFirst p0_past p0_goings p0_rowSize p0_ways p0_hasField p0_fieldSize p0_faultNow p0_hasTree p0_treeSize p0_weightCount p0_roundCount p0_setCount p0_puts p0_takes) → va_S A s.heap H locs → lv_has ls 6 [(0, .ref h_p0), (1, .int v1), (2, .int v2), (3, .int v3), (4, .int v4)] → W p l e ({ frames := 0, cells := 0, slots := 0, locals := 0 }) s m args below meth c H locs 0 0 (MQ below (q_X10_bitsOf dC dI cI cJ cZ h_p0 ad_p0 p0_places p0_steps p0_pastFirst p0_past p0_goings p0_rowSize p0_ways p0_hasField p0_fieldSize p0_faultNow p0_hasTree p0_treeSize p0_weightCount p0_roundCount p0_setCount p0_puts p0_takes post A) args s 0 0 A) (F0 m 5 ls []) := by
  obtain ⟨hx, hb, hr, hml, hown, hts, hlocks, hK, hA, n1, n2⟩ := id E0
  have iX10 : ∀ w ∈ u_ws RX10 TX10 50, w ∈ wsX10_bitsOf := fun w h => List.mem_cons_of_mem _ (List.mem_append_right _ h)
  intro n
  induction n with
  | zero => intro v3 v4 hw; exact hw.elim
  | succ n ih =>
    intro v3 v4 hw H locs ls hP hD hS hl
    have hw : w_X10_bitsOf_L5b v1 v2 p0_places p0_puts p0_takes post K (w_X10_bitsOf_L5 v1 v2 p0_places p0_puts p0_takes post K n) v3 v4 := hw
    unfold w_X10_bitsOf_L5b at hw
    refine lv_iload hx hb dX10_bitsOf_5 (lv_at hl 4 rfl) ?_
    refine lv_aload_n hx hb dX10_bitsOf_7 rfl (lv_at hl 0 rfl) ?_
    refine va_get (D := (dC, dI)) (ci := 10) (v := .int p0_places) (C := RX10) (T := TX10) (N := 50) hx hb hts iX10 hown hK hP 0 rfl rfl 0 (by decide) (hts (.fieldLink RX10 127 "NetHouseModel" "places" "I") (by decide +kernel)) (fun _ h9 => h9) rfl dX10_bitsOf_8 ?_
    refine lv_icmp_ge (tgt := 69) hx hb dX10_bitsOf_11 (by decide) (fun c1 => ?_) (fun c2 => ?_)
    · have hw := hw.1 c1
      exact hk _ _ _ _ _ hw hP hD hS (lv_sub hl [3] rfl)
    · have hw := hw.2 c2
      refine lv_iload_n hx hb dX10_bitsOf_14 rfl (lv_at hl 2 rfl) ?_
      refine lv_if_eq (tgt := 33) hx hb dX10_bitsOf_15 (by decide) (fun c3 => ?_) (fun c4 => ?_)
      · have hw := hw.1 c3
        refine lv_aload_n hx hb dX10_bitsOf_33 rfl (lv_at hl 0 rfl) ?_
        refine va_get (D := (dC, dI)) (ci := 10) (v := .ref (ad_p0 5)) (C := RX10) (T := TX10) (N := 50) hx hb hts iX10 hown hK hP 0 rfl rfl 5 (by decide) (hts (.fieldLink RX10 19 "NetHouseModel" "puts" "[I") (by decide +kernel)) (fun _ h9 => h9) rfl dX10_bitsOf_34 ?_
        refine lv_bipush (v := 16) hx hb dX10_bitsOf_37 (by decide) ?_
        refine lv_iload_n hx hb dX10_bitsOf_39 rfl (lv_at hl 1 rfl) ?_
        refine lv_imul hx hb dX10_bitsOf_40 ?_
        refine lv_iload hx hb dX10_bitsOf_41 (lv_at hl 4 rfl) ?_
        refine lv_iadd hx hb dX10_bitsOf_43 ?_
        refine va_iald hx hb hK hP 1 0 rfl rfl hw.1 dX10_bitsOf_44 ?_
        have hw := hw.2
        refine lv_topi (fun x5 ex5 => ?_)
        have hw := hw x5 ex5
        refine lv_istore (lv' := [(5, .int x5), (0, .ref h_p0), (1, .int v1), (2, .int v2), (3, .int v3), (4, .int v4)]) hx hb dX10_bitsOf_45 hl (by decide) rfl (fun ls hl => ?_)
        refine lv_iload_n hx hb dX10_bitsOf_47 rfl (lv_at hl 4 rfl) ?_
        refine lv_iload hx hb dX10_bitsOf_48 (lv_at hl 0 rfl) ?_
        refine lv_if_le (tgt := 60) hx hb dX10_bitsOf_50 (by decide) (fun c6 => ?_) (fun c7 => ?_)
        · have hw := hw.1 c6
          refine lv_iconst (v := 0) hx hb dX10_bitsOf_60 (by decide) ?_
          refine lv_ior hx hb dX10_bitsOf_61 ?_
          refine lv_topi (fun x8 ex8 => ?_)
          have hw := hw x8 ex8
          refine lv_istore_n (lv' := [(3, .int x8), (5, .int x5), (0, .ref h_p0), (1, .int v1), (2, .int v2), (4, .int v4)]) hx hb dX10_bitsOf_62 rfl hl (by decide) rfl (fun ls hl => ?_)
          obtain ⟨x9, ex9⟩ : ∃ y : Int32, y = v4 + (1 : Int32) := ⟨_, rfl⟩
          have hw := hw x9 ex9
          refine lv_iinc (v := x9) (lv' := [(4, .int x9), (3, .int x8), (5, .int x5), (0, .ref h_p0), (1, .int v1), (2, .int v2)]) hx hb dX10_bitsOf_63 hl (k := 5) rfl (by rw [ex9]; rfl) (by decide) rfl (fun ls hl => ?_)
          refine lv_goto (tgt := 5) hx hb dX10_bitsOf_66 (by decide) ?_
          exact ih _ _ hw _ _ _ hP hD hS (lv_sub hl [3, 4, 5, 1, 0] rfl)
        · have hw := hw.2 c7
          refine lv_iconst (v := 1) hx hb dX10_bitsOf_53 (by decide) ?_
          refine lv_iload hx hb dX10_bitsOf_54 (lv_at hl 5 rfl) ?_
          refine lv_ishl hx hb dX10_bitsOf_56 ?_
          refine lv_goto (tgt := 61) hx hb dX10_bitsOf_57 (by decide) ?_
          refine lv_ior hx hb dX10_bitsOf_61 ?_
          refine lv_topi (fun x10 ex10 => ?_)
          have hw := hw x10 ex10
          refine lv_istore_n (lv' := [(3, .int x10), (5, .int x5), (0, .ref h_p0), (1, .int v1), (2, .int v2), (4, .int v4)]) hx hb dX10_bitsOf_62 rfl hl (by decide) rfl (fun ls hl => ?_)
          obtain ⟨x11, ex11⟩ : ∃ y : Int32, y = v4 + (1 : Int32) := ⟨_, rfl⟩
          have hw := hw x11 ex11
          refine lv_iinc (v := x11) (lv' := [(4, .int x11), (3, .int x10), (5, .int x5), (0, .ref h_p0), (1, .int v1), (2, .int v2)]) hx hb dX10_bitsOf_63 hl (k := 5) rfl (by rw [ex11]; rfl) (by decide) rfl (fun ls hl => ?_)
          refine lv_goto (tgt := 5) hx hb dX10_bitsOf_66 (by decide) ?_
          exact ih _ _ hw _ _ _ hP hD hS (lv_sub hl [3, 4, 5, 1, 0] rfl)
      · have hw := hw.2 c4
        refine lv_aload_n hx hb dX10_bitsOf_18 rfl (lv_at hl 0 rfl) ?_
        refine va_get (D := (dC, dI)) (ci := 10) (v := .ref (ad_p0 4)) (C := RX10) (T := TX10) (N := 50) hx hb hts iX10 hown hK hP 0 rfl rfl 4 (by decide) (hts (.fieldLink RX10 16 "NetHouseModel" "takes" "[I") (by decide +kernel)) (fun _ h9 => h9) rfl dX10_bitsOf_19 ?_
        refine lv_bipush (v := 16) hx hb dX10_bitsOf_22 (by decide) ?_
        refine lv_iload_n hx hb dX10_bitsOf_24 rfl (lv_at hl 1 rfl) ?_
        refine lv_imul hx hb dX10_bitsOf_25 ?_
        refine lv_iload hx hb dX10_bitsOf_26 (lv_at hl 4 rfl) ?_
        refine lv_iadd hx hb dX10_bitsOf_28 ?_
        refine va_iald hx hb hK hP 2 0 rfl rfl hw.1 dX10_bitsOf_29 ?_
        have hw := hw.2
        refine lv_goto (tgt := 45) hx hb dX10_bitsOf_30 (by decide) ?_
        refine lv_topi (fun x12 ex12 => ?_)
        have hw := hw x12 ex12
        refine lv_istore (lv' := [(5, .int x12), (0, .ref h_p0), (1, .int v1), (2, .int v2), (3, .int v3), (4, .int v4)]) hx hb dX10_bitsOf_45 hl (by decide) rfl (fun ls hl => ?_)
        refine lv_iload_n hx hb dX10_bitsOf_47 rfl (lv_at hl 4 rfl) ?_
        refine lv_iload hx hb dX10_bitsOf_48 (lv_at hl 0 rfl) ?_
        refine lv_if_le (tgt := 60) hx hb dX10_bitsOf_50 (by decide) (fun c13 => ?_) (fun c14 => ?_)
        · have hw := hw.1 c13
          refine lv_iconst (v := 0) hx hb dX10_bitsOf_60 (by decide) ?_
          refine lv_ior hx hb dX10_bitsOf_61 ?_
          refine lv_topi (fun x15 ex15 => ?_)
          have hw := hw x15 ex15
          refine lv_istore_n (lv' := [(3, .int x15), (5, .int x12), (0, .ref h_p0), (1, .int v1), (2, .int v2), (4, .int v4)]) hx hb dX10_bitsOf_62 rfl hl (by decide) rfl (fun ls hl => ?_)
          obtain ⟨x16, ex16⟩ : ∃ y : Int32, y = v4 + (1 : Int32) := ⟨_, rfl⟩
          have hw := hw x16 ex16
          refine lv_iinc (v := x16) (lv' := [(4, .int x16), (3, .int x15), (5, .int x12), (0, .ref h_p0), (1, .int v1), (2, .int v2)]) hx hb dX10_bitsOf_63 hl (k := 5) rfl (by rw [ex16]; rfl) (by decide) rfl (fun ls hl => ?_)
          refine lv_goto (tgt := 5) hx hb dX10_bitsOf_66 (by decide) ?_
          exact ih _ _ hw _ _ _ hP hD hS (lv_sub hl [3, 4, 5, 1, 0] rfl)
        · have hw := hw.2 c14
          refine lv_iconst (v := 1) hx hb dX10_bitsOf_53 (by decide) ?_
          refine lv_iload hx hb dX10_bitsOf_54 (lv_at hl 5 rfl) ?_
          refine lv_ishl hx hb dX10_bitsOf_56 ?_
          refine lv_goto (tgt := 61) hx hb dX10_bitsOf_57 (by decide) ?_
          refine lv_ior hx hb dX10_bitsOf_61 ?_
          refine lv_topi (fun x17 ex17 => ?_)
          have hw := hw x17 ex17
          refine lv_istore_n (lv' := [(3, .int x17), (5, .int x12), (0, .ref h_p0), (1, .int v1), (2, .int v2), (4, .int v4)]) hx hb dX10_bitsOf_62 rfl hl (by decide) rfl (fun ls hl => ?_)
          obtain ⟨x18, ex18⟩ : ∃ y : Int32, y = v4 + (1 : Int32) := ⟨_, rfl⟩
          have hw := hw x18 ex18
          refine lv_iinc (v := x18) (lv' := [(4, .int x18), (3, .int x17), (5, .int x12), (0, .ref h_p0), (1, .int v1), (2, .int v2)]) hx hb dX10_bitsOf_63 hl (k := 5) rfl (by rw [ex18]; rfl) (by decide) rfl (fun ls hl => ?_)
          refine lv_goto (tgt := 5) hx hb dX10_bitsOf_66 (by decide) ?_
          exact ih _ _ hw _ _ _ hP hD hS (lv_sub hl [3, 4, 5, 1, 0] rfl)
set_option maxHeartbeats 4000000 in
set_option maxRecDepth 100000 in
theorem c_X10_bitsOf {l : Launch} {dC : Nat → ClassId} {dI : Nat → Nat → Nat} {sz : Nat} {cI cJ cZ : ClassId} {h_p0 : Nat} {ad_p0 : Nat → Nat} {p0_places : Int32} {p0_steps : Int32} {p0_pastFirst : Int32} {p0_past : Int32} {p0_goings : Int32} {p0_rowSize : Int32} {p0_ways : Int32} {p0_hasField : Int32} {p0_fieldSize : Int32} {p0_faultNow : Int32} {p0_hasTree : Int32} {p0_treeSize : Int32} {p0_weightCount : Int32} {p0_roundCount : Int32} {p0_setCount : Int32} {p0_puts : Nat → Int32} {p0_takes : Nat → Int32} {a1 : Int32} {a2 : Int32} {post : Int32 → Prop} (hw : w_X10_bitsOf p0_places p0_puts p0_takes a1 a2 post) : Met l yX10_bitsOf wsX10_bitsOf ({ frames := 0, cells := 0, slots := 0, locals := 0 }) (va_Pc [.ref h_p0, .int a1, .int a2] (xPre (dC, dI) cI cJ cZ (wld_X10_bitsOf cI cJ cZ h_p0 ad_p0 p0_places p0_steps p0_pastFirst p0_past p0_goings p0_rowSize p0_ways p0_hasField p0_fieldSize p0_faultNow p0_hasTree p0_treeSize p0_weightCount p0_roundCount p0_setCount p0_puts p0_takes) sz)) (q_X10_bitsOf dC dI cI cJ cZ h_p0 ad_p0 p0_places p0_steps p0_pastFirst p0_past p0_goings p0_rowSize p0_ways p0_hasField p0_fieldSize p0_faultNow p0_hasTree p0_treeSize p0_weightCount p0_roundCount p0_setCount p0_puts p0_takes post (va_A (wld_X10_bitsOf cI cJ cZ h_p0 ad_p0 p0_places p0_steps p0_pastFirst p0_past p0_goings p0_rowSize p0_ways p0_hasField p0_fieldSize p0_faultNow p0_hasTree p0_treeSize p0_weightCount p0_roundCount p0_setCount p0_puts p0_takes) sz)) 0 0 (va_A (wld_X10_bitsOf cI cJ cZ h_p0 ad_p0 p0_places p0_steps p0_pastFirst p0_past p0_goings p0_rowSize p0_ways p0_hasField p0_fieldSize p0_faultNow p0_hasTree p0_treeSize p0_weightCount p0_roundCount p0_setCount p0_puts p0_takes) sz) := by
  refine x_met (cc := cX10_bitsOf) (maxL := 6) (ret := (some .int)) (own := RX10) (Qc := fun A => (q_X10_bitsOf dC dI cI cJ cZ h_p0 ad_p0 p0_places p0_steps p0_pastFirst p0_past p0_goings p0_rowSize p0_ways p0_hasField p0_fieldSize p0_faultNow p0_hasTree p0_treeSize p0_weightCount p0_roundCount p0_setCount p0_puts p0_takes post A)) (by decide) rfl rfl (Nat.le_of_ble_eq_true rfl) ?_
  intro p e s m args below meth c A ls E0 hP hD hS hl
  obtain ⟨hx, hb, hr, hml, hown, hts, hlocks, hK, hA, n1, n2⟩ := id E0
  have iX10 : ∀ w ∈ u_ws RX10 TX10 50, w ∈ wsX10_bitsOf := fun w h => List.mem_cons_of_mem _ (List.mem_append_right _ h)
  have hS0 := hS
  have hl : lv_has ls 6 [(0, .ref h_p0), (1, .int a1), (2, .int a2)] := hl
  unfold w_X10_bitsOf at hw
  obtain ⟨H, hH⟩ : ∃ H, H = s.heap := ⟨_, rfl⟩
  have hS : va_S A s.heap H [] := by rw [hH]; exact hS
  have hP : va_P (dC, dI) vwCl (wld_X10_bitsOf cI cJ cZ h_p0 ad_p0 p0_places p0_steps p0_pastFirst p0_past p0_goings p0_rowSize p0_ways p0_hasField p0_fieldSize p0_faultNow p0_hasTree p0_treeSize p0_weightCount p0_roundCount p0_setCount p0_puts p0_takes) H := by rw [hH]; exact hP
  suffices hG : W p l e ({ frames := 0, cells := 0, slots := 0, locals := 0 }) s m args below meth c H [] 0 0 (MQ below (q_X10_bitsOf dC dI cI cJ cZ h_p0 ad_p0 p0_places p0_steps p0_pastFirst p0_past p0_goings p0_rowSize p0_ways p0_hasField p0_fieldSize p0_faultNow p0_hasTree p0_treeSize p0_weightCount p0_roundCount p0_setCount p0_puts p0_takes post A) args s 0 0 A) (F0 m 0 ls []) by rw [hH] at hG; exact hG
  clear hH
  refine lv_iconst (v := 0) hx hb dX10_bitsOf_0 (by decide) ?_
  refine lv_istore_n (lv' := [(3, .int (0 : Int32)), (0, .ref h_p0), (1, .int a1), (2, .int a2)]) hx hb dX10_bitsOf_1 rfl hl (by decide) rfl (fun ls hl => ?_)
  refine lv_iconst (v := 0) hx hb dX10_bitsOf_2 (by decide) ?_
  refine lv_istore (lv' := [(4, .int (0 : Int32)), (3, .int (0 : Int32)), (0, .ref h_p0), (1, .int a1), (2, .int a2)]) hx hb dX10_bitsOf_3 hl (by decide) rfl (fun ls hl => ?_)
  obtain ⟨n19, hw⟩ := hw
  refine c_X10_bitsOf_L5 (l := l)  E0 ?_ n19 _ _ hw _ _ _ hP hD hS (lv_sub hl [2, 3, 4, 1, 0] rfl)
  · intro v20 v21 H locs ls hw hP hD hS hl
    have hP : va_P (dC, dI) vwCl (wld_X10_bitsOf cI cJ cZ h_p0 ad_p0 p0_places p0_steps p0_pastFirst p0_past p0_goings p0_rowSize p0_ways p0_hasField p0_fieldSize p0_faultNow p0_hasTree p0_treeSize p0_weightCount p0_roundCount p0_setCount p0_puts p0_takes) H := hP
    have hD : va_D A (wld_X10_bitsOf cI cJ cZ h_p0 ad_p0 p0_places p0_steps p0_pastFirst p0_past p0_goings p0_rowSize p0_ways p0_hasField p0_fieldSize p0_faultNow p0_hasTree p0_treeSize p0_weightCount p0_roundCount p0_setCount p0_puts p0_takes) := hD
    refine lv_iload_n hx hb dX10_bitsOf_69 rfl (lv_at hl 0 rfl) ?_
    exact x_iret (w1 := fun (u : Unit) => (wld_X10_bitsOf cI cJ cZ h_p0 ad_p0 p0_places p0_steps p0_pastFirst p0_past p0_goings p0_rowSize p0_ways p0_hasField p0_fieldSize p0_faultNow p0_hasTree p0_treeSize p0_weightCount p0_roundCount p0_setCount p0_puts p0_takes)) hx hb hr hlocks () hw hP hD hS dX10_bitsOf_70
abbrev wld_X10_readSteps (cI cJ cZ : ClassId) (h_p0 : Nat) (ad_p0 : Nat → Nat) (p0_places : Int32) (p0_steps : Int32) (p0_pastFirst : Int32) (p0_past : Int32) (p0_goings : Int32) (p0_rowSize : Int32) (p0_ways : Int32) (p0_hasField : Int32) (p0_fieldSize : Int32) (p0_faultNow : Int32) (p0_hasTree : Int32) (p0_treeSize : Int32) (p0_weightCount : Int32) (p0_roundCount : Int32) (p0_setCount : Int32) (p0_answers : Nat → Int32) (p0_askers : Nat → Int32) (p0_puts : Nat → Int32) (p0_takes : Nat → Int32) : va_W := [(h_p0, .inr (10, [.int p0_places, .int p0_steps, .ref (ad_p0 2), .ref (ad_p0 3), .ref (ad_p0 4), .ref (ad_p0 5), .ref (ad_p0 6), .ref (ad_p0 7), .ref (ad_p0 8), .ref (ad_p0 9), .ref (ad_p0 10), .ref (ad_p0 11), .ref (ad_p0 12), .ref (ad_p0 13), .ref (ad_p0 14), .int p0_pastFirst, .int p0_past, .int p0_goings, .int p0_rowSize, .ref (ad_p0 19), .ref (ad_p0 20), .int p0_ways, .ref (ad_p0 22), .ref (ad_p0 23), .int p0_hasField, .int p0_fieldSize, .ref (ad_p0 26), .ref (ad_p0 27), .ref (ad_p0 28), .ref (ad_p0 29), .ref (ad_p0 30), .ref (ad_p0 31), .ref (ad_p0 32), .int p0_faultNow, .int p0_hasTree, .int p0_treeSize, .ref (ad_p0 36), .ref (ad_p0 37), .ref (ad_p0 38), .ref (ad_p0 39), .ref (ad_p0 40), .ref (ad_p0 41), .ref (ad_p0 42), .int p0_weightCount, .ref (ad_p0 44), .int p0_roundCount, .ref (ad_p0 46), .int p0_setCount, .ref (ad_p0 48), .ref (ad_p0 49)])), ((ad_p0 49), .inl (cI, 16, .inl p0_answers)), ((ad_p0 48), .inl (cI, 16, .inl p0_askers)), ((ad_p0 5), .inl (cI, 256, .inl p0_puts)), ((ad_p0 4), .inl (cI, 256, .inl p0_takes))]
abbrev q_X10_readSteps (dC : Nat → ClassId) (dI : Nat → Nat → Nat) (cI cJ cZ : ClassId) (h_p0 : Nat) (ad_p0 : Nat → Nat) (p0_places : Int32) (p0_steps : Int32) (p0_pastFirst : Int32) (p0_past : Int32) (p0_goings : Int32) (p0_rowSize : Int32) (p0_ways : Int32) (p0_hasField : Int32) (p0_fieldSize : Int32) (p0_faultNow : Int32) (p0_hasTree : Int32) (p0_treeSize : Int32) (p0_weightCount : Int32) (p0_roundCount : Int32) (p0_setCount : Int32) (p0_answers : Nat → Int32) (p0_askers : Nat → Int32) (p0_puts : Nat → Int32) (p0_takes : Nat → Int32) (post : (Nat → Int32) → (Nat → Int32) → Prop) (A : Nat → Prop) : Array Value → State → Outcome → State → Prop := va_Qv (fun (u : (Nat → Int32) × (Nat → Int32)) => post (u.1) (u.2)) (fun (u : (Nat → Int32) × (Nat → Int32)) t => xPost (dC, dI) A (wld_X10_readSteps cI cJ cZ h_p0 ad_p0 p0_places p0_steps p0_pastFirst p0_past p0_goings p0_rowSize p0_ways p0_hasField p0_fieldSize p0_faultNow p0_hasTree p0_treeSize p0_weightCount p0_roundCount p0_setCount (u.1) (u.2) p0_puts p0_takes) t) A
def w_X10_readSteps_L2b (v1 : Int32) (p0_places : Int32) (p0_steps : Int32) (p0_puts : Nat → Int32) (p0_takes : Nat → Int32) (post : (Nat → Int32) → (Nat → Int32) → Prop) (K : (Int32) → (Nat → Int32) → (Nat → Int32) → Prop) (rec : (Int32) → (Nat → Int32) → (Nat → Int32) → Prop) (v2 : Int32) (p0_answers : Nat → Int32) (p0_askers : Nat → Int32) : Prop :=
    (p0_steps ≤ v2 →
      K v2 p0_answers p0_askers) ∧
    (¬ p0_steps ≤ v2 →
      (¬ v1 = (1 : Int32) →
        w_X10_bitsOf p0_places p0_puts p0_takes v2 (0 : Int32) (fun r5 =>
        vp_in v2 16 ∧
        (¬ v1 = 0 →
          w_X10_bitsOf p0_places p0_puts p0_takes v2 (0 : Int32) (fun r8 =>
          vp_in v2 16 ∧
          ∀ x9 : Int32, x9 = v2 + (1 : Int32) →
          rec x9 (upd p0_answers v2.toNatClampNeg r8) (upd p0_askers v2.toNatClampNeg r5))) ∧
        (v1 = 0 →
          w_X10_bitsOf p0_places p0_puts p0_takes v2 (1 : Int32) (fun r10 =>
          vp_in v2 16 ∧
          ∀ x11 : Int32, x11 = v2 + (1 : Int32) →
          rec x11 (upd p0_answers v2.toNatClampNeg r10) (upd p0_askers v2.toNatClampNeg r5))))) ∧
      (v1 = (1 : Int32) →
        w_X10_bitsOf p0_places p0_puts p0_takes v2 (1 : Int32) (fun r12 =>
        vp_in v2 16 ∧
        (¬ v1 = 0 →
          w_X10_bitsOf p0_places p0_puts p0_takes v2 (0 : Int32) (fun r15 =>
          vp_in v2 16 ∧
          ∀ x16 : Int32, x16 = v2 + (1 : Int32) →
          rec x16 (upd p0_answers v2.toNatClampNeg r15) (upd p0_askers v2.toNatClampNeg r12))) ∧
        (v1 = 0 →
          w_X10_bitsOf p0_places p0_puts p0_takes v2 (1 : Int32) (fun r17 =>
          vp_in v2 16 ∧
          ∀ x18 : Int32, x18 = v2 + (1 : Int32) →
          rec x18 (upd p0_answers v2.toNatClampNeg r17) (upd p0_askers v2.toNatClampNeg r12))))))
def w_X10_readSteps_L2 (v1 : Int32) (p0_places : Int32) (p0_steps : Int32) (p0_puts : Nat → Int32) (p0_takes : Nat → Int32) (post : (Nat → Int32) → (Nat → Int32) → Prop) (K : (Int32) → (Nat → Int32) → (Nat → Int32) → Prop) : Nat → (Int32) → (Nat → Int32) → (Nat → Int32) → Prop
  | 0, _, _, _ => False
  | n + 1, v2, p0_answers, p0_askers => w_X10_readSteps_L2b v1 p0_places p0_steps p0_puts p0_takes post K (w_X10_readSteps_L2 v1 p0_places p0_steps p0_puts p0_takes post K n) v2 p0_answers p0_askers
def w_X10_readSteps (p0_places : Int32) (p0_steps : Int32) (p0_answers : Nat → Int32) (p0_askers : Nat → Int32) (p0_puts : Nat → Int32) (p0_takes : Nat → Int32) (a1 : Int32) (post : (Nat → Int32) → (Nat → Int32) → Prop) : Prop :=
  ∃ n : Nat, w_X10_readSteps_L2 a1 p0_places p0_steps p0_puts p0_takes post (fun v20 s21 s22 =>
      (post s21 s22)) n (0 : Int32) p0_answers p0_askers
set_option maxHeartbeats 4000000 in
set_option maxRecDepth 100000 in
theorem c_X10_readSteps_L2 {p : Program} {l : Launch} {e : Env} {s : State} {m : MethodId} {args : Array Value} {below : List Frame} {meth : Method} {c : Code} {dC : Nat → ClassId} {dI : Nat → Nat → Nat} {A : Nat → Prop} {cI cJ cZ : ClassId} {h_p0 : Nat} {ad_p0 : Nat → Nat} {p0_places : Int32} {p0_steps : Int32} {p0_pastFirst : Int32} {p0_past : Int32} {p0_goings : Int32} {p0_rowSize : Int32} {p0_ways : Int32} {p0_hasField : Int32} {p0_fieldSize : Int32} {p0_faultNow : Int32} {p0_hasTree : Int32} {p0_treeSize : Int32} {p0_weightCount : Int32} {p0_roundCount : Int32} {p0_setCount : Int32} {p0_puts : Nat → Int32} {p0_takes : Nat → Int32} {v1 : Int32} {z_p0_answers : Nat → Int32} {z_p0_askers : Nat → Int32} {post : (Nat → Int32) → (Nat → Int32) → Prop} {K : (Int32) → (Nat → Int32) → (Nat → Int32) → Prop} (E0 : xEnv p s m args meth c cX10_readSteps none 3 RX10 wsX10_readSteps (dC, dI) cI cJ cZ A) (hk : ∀ (v2 : Int32) (p0_answers : Nat → Int32) (p0_askers : Nat → Int32) (H : Heap) (locs : List Loc) (ls : Array Slot), K v2 p0_answers p0_askers → va_P (dC, dI) vwCl (wld_X10_readSteps cI cJ cZ h_p0 ad_p0 p0_places p0_steps p0_pastFirst p0_past p0_goings p0_rowSize p0_ways p0_hasField p0_fieldSize p0_faultNow p0_hasTree p0_treeSize p0_weightCount p0_roundCount p0_setCount p0_answers p0_askers p0_puts p0_takes) H → va_D A (wld_X10_readSteps cI cJ cZ h_p0 ad_p0 p0_places p0_steps p0_pastFirst p0_past p0_goings p0_rowSize p0_ways p0_hasField p0_fieldSize p0_faultNow p0_hasTree p0_treeSize p0_weightCount p0_roundCount p0_setCount p0_answers p0_askers p0_puts p0_takes) → va_S A s.heap H locs → lv_has ls 3 [] → W p l e ({ frames := 1, cells := 0, slots := 0, locals := 25 }) s m args below meth c H locs 0 0 (MQ below (q_X10_readSteps dC dI cI cJ cZ h_p0 ad_p0 p0_places p0_steps p0_pastFirst p0_past p0_goings p0_rowSize p0_ways p0_hasField p0_fieldSize p0_faultNow p0_hasTree p0_treeSize p0_weightCount p0_roundCount p0_setCount z_p0_answers z_p0_askers p0_puts p0_takes post A) args s 0 0 A) (F0 m 57 ls [])) : ∀ (n : Nat) (v2 : Int32) (p0_answers : Nat → Int32) (p0_askers : Nat → Int32), w_X10_readSteps_L2 v1 p0_places p0_steps p0_puts p0_takes post K n v2 p0_answers p0_askers → ∀ (H : Heap) (locs : List Loc) (ls : Array Slot), va_P (dC, dI) vwCl (wld_X10_readSteps cI cJ cZ h_p0 ad_p0 p0_places p0_steps p0_pastFirst p0_past p0_goings p0_rowSize p0_ways p0_hasField p0_fieldSize p0_faultNow p0_hasTree p0_treeSize p0_weightCount p0_roundCount p0_setCount p0_answers p0_askers p0_puts p0_takes) H → va_D A (wld_X10_readSteps cI cJ cZ h_p0 ad_p0 p0_places p0_steps p0_pastFirst p0_past p0_goings p0_rowSize p0_ways p0_hasField p0_fieldSize p0_faultNow p0_hasTree p0_treeSize p0_weightCount p0_roundCount p0_setCount p0_answers p0_askers p0_puts p0_takes) → va_S A s.heap H locs → lv_has ls 3 [(0, .ref h_p0), (1, .int v1), (2, .int v2)] → W p l e ({ frames := 1, cells := 0, slots := 0, locals := 25 }) s m args below meth c H locs 0 0 (MQ below (q_X10_readSteps dC dI cI cJ cZ h_p0 ad_p0 p0_places p0_steps p0_pastFirst p0_past p0_goings p0_rowSize p0_ways p0_hasField p0_fieldSize p0_faultNow p0_hasTree p0_treeSize p0_weightCount p0_roundCount p0_setCount z_p0_answers z_p0_askers p0_puts p0_takes post A) args s 0 0 A) (F0 m 2 ls []) := by
  obtain ⟨hx, hb, hr, hml, hown, hts, hlocks, hK, hA, n1, n2⟩ := id E0
  have iX10 : ∀ w ∈ u_ws RX10 TX10 50, w ∈ wsX10_readSteps := fun w h => List.mem_cons_of_mem _ (List.mem_append_right _ h)
  intro n
  induction n with
  | zero => intro v2 p0_answers p0_askers hw; exact hw.elim
  | succ n ih =>
    intro v2 p0_answers p0_askers hw H locs ls hP hD hS hl
    have hw : w_X10_readSteps_L2b v1 p0_places p0_steps p0_puts p0_takes post K (w_X10_readSteps_L2 v1 p0_places p0_steps p0_puts p0_takes post K n) v2 p0_answers p0_askers := hw
    unfold w_X10_readSteps_L2b at hw
    refine lv_iload_n hx hb dX10_readSteps_2 rfl (lv_at hl 2 rfl) ?_
    refine lv_aload_n hx hb dX10_readSteps_3 rfl (lv_at hl 0 rfl) ?_
    refine va_get (D := (dC, dI)) (ci := 10) (v := .int p0_steps) (C := RX10) (T := TX10) (N := 50) hx hb hts iX10 hown hK hP 0 rfl rfl 1 (by decide) (hts (.fieldLink RX10 130 "NetHouseModel" "steps" "I") (by decide +kernel)) (fun _ h9 => h9) rfl dX10_readSteps_4 ?_
    refine lv_icmp_ge (tgt := 57) hx hb dX10_readSteps_7 (by decide) (fun c1 => ?_) (fun c2 => ?_)
    · have hw := hw.1 c1
      exact hk _ _ _ _ _ _ hw hP hD hS (lv_sub hl [] rfl)
    · have hw := hw.2 c2
      refine lv_aload_n hx hb dX10_readSteps_10 rfl (lv_at hl 0 rfl) ?_
      refine va_get (D := (dC, dI)) (ci := 10) (v := .ref (ad_p0 48)) (C := RX10) (T := TX10) (N := 50) hx hb hts iX10 hown hK hP 0 rfl rfl 48 (by decide) (hts (.fieldLink RX10 118 "NetHouseModel" "askers" "[I") (by decide +kernel)) (fun _ h9 => h9) rfl dX10_readSteps_11 ?_
      refine lv_iload_n hx hb dX10_readSteps_14 rfl (lv_at hl 2 rfl) ?_
      refine lv_aload_n hx hb dX10_readSteps_15 rfl (lv_at hl 0 rfl) ?_
      refine lv_iload_n hx hb dX10_readSteps_16 rfl (lv_at hl 2 rfl) ?_
      refine lv_iload_n hx hb dX10_readSteps_17 rfl (lv_at hl 1 rfl) ?_
      refine lv_iconst (v := 1) hx hb dX10_readSteps_18 (by decide) ?_
      refine lv_icmp_ne (tgt := 26) hx hb dX10_readSteps_19 (by decide) (fun c3 => ?_) (fun c4 => ?_)
      · have hw := hw.1 c3
        refine lv_iconst (v := 0) hx hb dX10_readSteps_26 (by decide) ?_
        obtain ⟨hPc, hDc⟩ := x_sub (wc := (wld_X10_bitsOf cI cJ cZ h_p0 ad_p0 p0_places p0_steps p0_pastFirst p0_past p0_goings p0_rowSize p0_ways p0_hasField p0_fieldSize p0_faultNow p0_hasTree p0_treeSize p0_weightCount p0_roundCount p0_setCount p0_puts p0_takes)) hP hD [0, 3, 4] (n := 5) rfl rfl (by decide +kernel)
        refine x_calli (ws' := fun (u : Unit) => (wld_X10_readSteps cI cJ cZ h_p0 ad_p0 p0_places p0_steps p0_pastFirst p0_past p0_goings p0_rowSize p0_ways p0_hasField p0_fieldSize p0_faultNow p0_hasTree p0_treeSize p0_weightCount p0_roundCount p0_setCount p0_answers p0_askers p0_puts p0_takes)) hP hD hS hA [0, 3, 4] [1, 2] [2, 0, 1, 3, 4] (n := 5) (k := 3) rfl (fun _ => rfl) rfl (by decide +kernel) (fun _ => rfl) (va_runV (As := [.int v2, .int (0 : Int32)]) (rest := [.int v2, .ref (ad_p0 48)]) ⟨hx, hb, hml, hown, hts⟩ (c_X10_bitsOf (l := l) (dC := dC) (dI := dI) (cI := cI) (cJ := cJ) (cZ := cZ) (sz := H.size) (h_p0 := h_p0) (ad_p0 := ad_p0) (p0_places := p0_places) (p0_steps := p0_steps) (p0_pastFirst := p0_pastFirst) (p0_past := p0_past) (p0_goings := p0_goings) (p0_rowSize := p0_rowSize) (p0_ways := p0_ways) (p0_hasField := p0_hasField) (p0_fieldSize := p0_fieldSize) (p0_faultNow := p0_faultNow) (p0_hasTree := p0_hasTree) (p0_treeSize := p0_treeSize) (p0_weightCount := p0_weightCount) (p0_roundCount := p0_roundCount) (p0_setCount := p0_setCount) (p0_puts := p0_puts) (p0_takes := p0_takes) hw) (cwV 2 hts gX10_readSteps_X10_bitsOf rfl rfl rfl (by decide +kernel) ⟨Nat.le_of_ble_eq_true rfl, Nat.le_of_ble_eq_true rfl⟩) ⟨xPre_blind, va_recv hK hP (ci := 10) (q0 := 0) rfl rfl, xPre_at hK hPc hDc n1 n2⟩ rfl rfl hl.1 rfl (lv_room (Nat.le_of_ble_eq_true rfl)) dX10_readSteps_27 ⟨Nat.zero_le _, Nat.zero_le _⟩) (fun r5 u H locs hw hP hD hS => ?_)
        try dsimp only at hw
        have hP : va_P (dC, dI) vwCl (wld_X10_readSteps cI cJ cZ h_p0 ad_p0 p0_places p0_steps p0_pastFirst p0_past p0_goings p0_rowSize p0_ways p0_hasField p0_fieldSize p0_faultNow p0_hasTree p0_treeSize p0_weightCount p0_roundCount p0_setCount p0_answers p0_askers p0_puts p0_takes) H := hP
        have hD : va_D A (wld_X10_readSteps cI cJ cZ h_p0 ad_p0 p0_places p0_steps p0_pastFirst p0_past p0_goings p0_rowSize p0_ways p0_hasField p0_fieldSize p0_faultNow p0_hasTree p0_treeSize p0_weightCount p0_roundCount p0_setCount p0_answers p0_askers p0_puts p0_takes) := hD
        refine va_iast hx hb hK hP hD hS 2 0 rfl rfl hw.1 dX10_readSteps_30 (fun H locs hP hD hS => ?_)
        have hw := hw.2
        have hP : va_P (dC, dI) vwCl (wld_X10_readSteps cI cJ cZ h_p0 ad_p0 p0_places p0_steps p0_pastFirst p0_past p0_goings p0_rowSize p0_ways p0_hasField p0_fieldSize p0_faultNow p0_hasTree p0_treeSize p0_weightCount p0_roundCount p0_setCount p0_answers (upd p0_askers v2.toNatClampNeg r5) p0_puts p0_takes) H := hP
        have hD : va_D A (wld_X10_readSteps cI cJ cZ h_p0 ad_p0 p0_places p0_steps p0_pastFirst p0_past p0_goings p0_rowSize p0_ways p0_hasField p0_fieldSize p0_faultNow p0_hasTree p0_treeSize p0_weightCount p0_roundCount p0_setCount p0_answers (upd p0_askers v2.toNatClampNeg r5) p0_puts p0_takes) := hD
        refine lv_aload_n hx hb dX10_readSteps_31 rfl (lv_at hl 0 rfl) ?_
        refine va_get (D := (dC, dI)) (ci := 10) (v := .ref (ad_p0 49)) (C := RX10) (T := TX10) (N := 50) hx hb hts iX10 hown hK hP 0 rfl rfl 49 (by decide) (hts (.fieldLink RX10 121 "NetHouseModel" "answers" "[I") (by decide +kernel)) (fun _ h9 => h9) rfl dX10_readSteps_32 ?_
        refine lv_iload_n hx hb dX10_readSteps_35 rfl (lv_at hl 2 rfl) ?_
        refine lv_aload_n hx hb dX10_readSteps_36 rfl (lv_at hl 0 rfl) ?_
        refine lv_iload_n hx hb dX10_readSteps_37 rfl (lv_at hl 2 rfl) ?_
        refine lv_iload_n hx hb dX10_readSteps_38 rfl (lv_at hl 1 rfl) ?_
        refine lv_if_ne (tgt := 46) hx hb dX10_readSteps_39 (by decide) (fun c6 => ?_) (fun c7 => ?_)
        · have hw := hw.1 c6
          refine lv_iconst (v := 0) hx hb dX10_readSteps_46 (by decide) ?_
          obtain ⟨hPc, hDc⟩ := x_sub (wc := (wld_X10_bitsOf cI cJ cZ h_p0 ad_p0 p0_places p0_steps p0_pastFirst p0_past p0_goings p0_rowSize p0_ways p0_hasField p0_fieldSize p0_faultNow p0_hasTree p0_treeSize p0_weightCount p0_roundCount p0_setCount p0_puts p0_takes)) hP hD [0, 3, 4] (n := 5) rfl rfl (by decide +kernel)
          refine x_calli (ws' := fun (u : Unit) => (wld_X10_readSteps cI cJ cZ h_p0 ad_p0 p0_places p0_steps p0_pastFirst p0_past p0_goings p0_rowSize p0_ways p0_hasField p0_fieldSize p0_faultNow p0_hasTree p0_treeSize p0_weightCount p0_roundCount p0_setCount p0_answers (upd p0_askers v2.toNatClampNeg r5) p0_puts p0_takes)) hP hD hS hA [0, 3, 4] [1, 2] [2, 0, 1, 3, 4] (n := 5) (k := 3) rfl (fun _ => rfl) rfl (by decide +kernel) (fun _ => rfl) (va_runV (As := [.int v2, .int (0 : Int32)]) (rest := [.int v2, .ref (ad_p0 49)]) ⟨hx, hb, hml, hown, hts⟩ (c_X10_bitsOf (l := l) (dC := dC) (dI := dI) (cI := cI) (cJ := cJ) (cZ := cZ) (sz := H.size) (h_p0 := h_p0) (ad_p0 := ad_p0) (p0_places := p0_places) (p0_steps := p0_steps) (p0_pastFirst := p0_pastFirst) (p0_past := p0_past) (p0_goings := p0_goings) (p0_rowSize := p0_rowSize) (p0_ways := p0_ways) (p0_hasField := p0_hasField) (p0_fieldSize := p0_fieldSize) (p0_faultNow := p0_faultNow) (p0_hasTree := p0_hasTree) (p0_treeSize := p0_treeSize) (p0_weightCount := p0_weightCount) (p0_roundCount := p0_roundCount) (p0_setCount := p0_setCount) (p0_puts := p0_puts) (p0_takes := p0_takes) hw) (cwV 2 hts gX10_readSteps_X10_bitsOf rfl rfl rfl (by decide +kernel) ⟨Nat.le_of_ble_eq_true rfl, Nat.le_of_ble_eq_true rfl⟩) ⟨xPre_blind, va_recv hK hP (ci := 10) (q0 := 0) rfl rfl, xPre_at hK hPc hDc n1 n2⟩ rfl rfl hl.1 rfl (lv_room (Nat.le_of_ble_eq_true rfl)) dX10_readSteps_47 ⟨Nat.zero_le _, Nat.zero_le _⟩) (fun r8 u H locs hw hP hD hS => ?_)
          try dsimp only at hw
          have hP : va_P (dC, dI) vwCl (wld_X10_readSteps cI cJ cZ h_p0 ad_p0 p0_places p0_steps p0_pastFirst p0_past p0_goings p0_rowSize p0_ways p0_hasField p0_fieldSize p0_faultNow p0_hasTree p0_treeSize p0_weightCount p0_roundCount p0_setCount p0_answers (upd p0_askers v2.toNatClampNeg r5) p0_puts p0_takes) H := hP
          have hD : va_D A (wld_X10_readSteps cI cJ cZ h_p0 ad_p0 p0_places p0_steps p0_pastFirst p0_past p0_goings p0_rowSize p0_ways p0_hasField p0_fieldSize p0_faultNow p0_hasTree p0_treeSize p0_weightCount p0_roundCount p0_setCount p0_answers (upd p0_askers v2.toNatClampNeg r5) p0_puts p0_takes) := hD
          refine va_iast hx hb hK hP hD hS 1 0 rfl rfl hw.1 dX10_readSteps_50 (fun H locs hP hD hS => ?_)
          have hw := hw.2
          have hP : va_P (dC, dI) vwCl (wld_X10_readSteps cI cJ cZ h_p0 ad_p0 p0_places p0_steps p0_pastFirst p0_past p0_goings p0_rowSize p0_ways p0_hasField p0_fieldSize p0_faultNow p0_hasTree p0_treeSize p0_weightCount p0_roundCount p0_setCount (upd p0_answers v2.toNatClampNeg r8) (upd p0_askers v2.toNatClampNeg r5) p0_puts p0_takes) H := hP
          have hD : va_D A (wld_X10_readSteps cI cJ cZ h_p0 ad_p0 p0_places p0_steps p0_pastFirst p0_past p0_goings p0_rowSize p0_ways p0_hasField p0_fieldSize p0_faultNow p0_hasTree p0_treeSize p0_weightCount p0_roundCount p0_setCount (upd p0_answers v2.toNatClampNeg r8) (upd p0_askers v2.toNatClampNeg r5) p0_puts p0_takes) := hD
          obtain ⟨x9, ex9⟩ : ∃ y : Int32, y = v2 + (1 : Int32) := ⟨_, rfl⟩
          have hw := hw x9 ex9
          refine lv_iinc (v := x9) (lv' := [(2, .int x9), (0, .ref h_p0), (1, .int v1)]) hx hb dX10_readSteps_51 hl (k := 2) rfl (by rw [ex9]; rfl) (by decide) rfl (fun ls hl => ?_)
          refine lv_goto (tgt := 2) hx hb dX10_readSteps_54 (by decide) ?_
          exact ih _ _ _ hw _ _ _ hP hD hS (lv_sub hl [1, 2, 0] rfl)
        · have hw := hw.2 c7
          refine lv_iconst (v := 1) hx hb dX10_readSteps_42 (by decide) ?_
          refine lv_goto (tgt := 47) hx hb dX10_readSteps_43 (by decide) ?_
          obtain ⟨hPc, hDc⟩ := x_sub (wc := (wld_X10_bitsOf cI cJ cZ h_p0 ad_p0 p0_places p0_steps p0_pastFirst p0_past p0_goings p0_rowSize p0_ways p0_hasField p0_fieldSize p0_faultNow p0_hasTree p0_treeSize p0_weightCount p0_roundCount p0_setCount p0_puts p0_takes)) hP hD [0, 3, 4] (n := 5) rfl rfl (by decide +kernel)
          refine x_calli (ws' := fun (u : Unit) => (wld_X10_readSteps cI cJ cZ h_p0 ad_p0 p0_places p0_steps p0_pastFirst p0_past p0_goings p0_rowSize p0_ways p0_hasField p0_fieldSize p0_faultNow p0_hasTree p0_treeSize p0_weightCount p0_roundCount p0_setCount p0_answers (upd p0_askers v2.toNatClampNeg r5) p0_puts p0_takes)) hP hD hS hA [0, 3, 4] [1, 2] [2, 0, 1, 3, 4] (n := 5) (k := 3) rfl (fun _ => rfl) rfl (by decide +kernel) (fun _ => rfl) (va_runV (As := [.int v2, .int (1 : Int32)]) (rest := [.int v2, .ref (ad_p0 49)]) ⟨hx, hb, hml, hown, hts⟩ (c_X10_bitsOf (l := l) (dC := dC) (dI := dI) (cI := cI) (cJ := cJ) (cZ := cZ) (sz := H.size) (h_p0 := h_p0) (ad_p0 := ad_p0) (p0_places := p0_places) (p0_steps := p0_steps) (p0_pastFirst := p0_pastFirst) (p0_past := p0_past) (p0_goings := p0_goings) (p0_rowSize := p0_rowSize) (p0_ways := p0_ways) (p0_hasField := p0_hasField) (p0_fieldSize := p0_fieldSize) (p0_faultNow := p0_faultNow) (p0_hasTree := p0_hasTree) (p0_treeSize := p0_treeSize) (p0_weightCount := p0_weightCount) (p0_roundCount := p0_roundCount) (p0_setCount := p0_setCount) (p0_puts := p0_puts) (p0_takes := p0_takes) hw) (cwV 2 hts gX10_readSteps_X10_bitsOf rfl rfl rfl (by decide +kernel) ⟨Nat.le_of_ble_eq_true rfl, Nat.le_of_ble_eq_true rfl⟩) ⟨xPre_blind, va_recv hK hP (ci := 10) (q0 := 0) rfl rfl, xPre_at hK hPc hDc n1 n2⟩ rfl rfl hl.1 rfl (lv_room (Nat.le_of_ble_eq_true rfl)) dX10_readSteps_47 ⟨Nat.zero_le _, Nat.zero_le _⟩) (fun r10 u H locs hw hP hD hS => ?_)
          try dsimp only at hw
          have hP : va_P (dC, dI) vwCl (wld_X10_readSteps cI cJ cZ h_p0 ad_p0 p0_places p0_steps p0_pastFirst p0_past p0_goings p0_rowSize p0_ways p0_hasField p0_fieldSize p0_faultNow p0_hasTree p0_treeSize p0_weightCount p0_roundCount p0_setCount p0_answers (upd p0_askers v2.toNatClampNeg r5) p0_puts p0_takes) H := hP
          have hD : va_D A (wld_X10_readSteps cI cJ cZ h_p0 ad_p0 p0_places p0_steps p0_pastFirst p0_past p0_goings p0_rowSize p0_ways p0_hasField p0_fieldSize p0_faultNow p0_hasTree p0_treeSize p0_weightCount p0_roundCount p0_setCount p0_answers (upd p0_askers v2.toNatClampNeg r5) p0_puts p0_takes) := hD
          refine va_iast hx hb hK hP hD hS 1 0 rfl rfl hw.1 dX10_readSteps_50 (fun H locs hP hD hS => ?_)
          have hw := hw.2
          have hP : va_P (dC, dI) vwCl (wld_X10_readSteps cI cJ cZ h_p0 ad_p0 p0_places p0_steps p0_pastFirst p0_past p0_goings p0_rowSize p0_ways p0_hasField p0_fieldSize p0_faultNow p0_hasTree p0_treeSize p0_weightCount p0_roundCount p0_setCount (upd p0_answers v2.toNatClampNeg r10) (upd p0_askers v2.toNatClampNeg r5) p0_puts p0_takes) H := hP
          have hD : va_D A (wld_X10_readSteps cI cJ cZ h_p0 ad_p0 p0_places p0_steps p0_pastFirst p0_past p0_goings p0_rowSize p0_ways p0_hasField p0_fieldSize p0_faultNow p0_hasTree p0_treeSize p0_weightCount p0_roundCount p0_setCount (upd p0_answers v2.toNatClampNeg r10) (upd p0_askers v2.toNatClampNeg r5) p0_puts p0_takes) := hD
          obtain ⟨x11, ex11⟩ : ∃ y : Int32, y = v2 + (1 : Int32) := ⟨_, rfl⟩
          have hw := hw x11 ex11
          refine lv_iinc (v := x11) (lv' := [(2, .int x11), (0, .ref h_p0), (1, .int v1)]) hx hb dX10_readSteps_51 hl (k := 2) rfl (by rw [ex11]; rfl) (by decide) rfl (fun ls hl => ?_)
          refine lv_goto (tgt := 2) hx hb dX10_readSteps_54 (by decide) ?_
          exact ih _ _ _ hw _ _ _ hP hD hS (lv_sub hl [1, 2, 0] rfl)
      · have hw := hw.2 c4
        refine lv_iconst (v := 1) hx hb dX10_readSteps_22 (by decide) ?_
        refine lv_goto (tgt := 27) hx hb dX10_readSteps_23 (by decide) ?_
        obtain ⟨hPc, hDc⟩ := x_sub (wc := (wld_X10_bitsOf cI cJ cZ h_p0 ad_p0 p0_places p0_steps p0_pastFirst p0_past p0_goings p0_rowSize p0_ways p0_hasField p0_fieldSize p0_faultNow p0_hasTree p0_treeSize p0_weightCount p0_roundCount p0_setCount p0_puts p0_takes)) hP hD [0, 3, 4] (n := 5) rfl rfl (by decide +kernel)
        refine x_calli (ws' := fun (u : Unit) => (wld_X10_readSteps cI cJ cZ h_p0 ad_p0 p0_places p0_steps p0_pastFirst p0_past p0_goings p0_rowSize p0_ways p0_hasField p0_fieldSize p0_faultNow p0_hasTree p0_treeSize p0_weightCount p0_roundCount p0_setCount p0_answers p0_askers p0_puts p0_takes)) hP hD hS hA [0, 3, 4] [1, 2] [2, 0, 1, 3, 4] (n := 5) (k := 3) rfl (fun _ => rfl) rfl (by decide +kernel) (fun _ => rfl) (va_runV (As := [.int v2, .int (1 : Int32)]) (rest := [.int v2, .ref (ad_p0 48)]) ⟨hx, hb, hml, hown, hts⟩ (c_X10_bitsOf (l := l) (dC := dC) (dI := dI) (cI := cI) (cJ := cJ) (cZ := cZ) (sz := H.size) (h_p0 := h_p0) (ad_p0 := ad_p0) (p0_places := p0_places) (p0_steps := p0_steps) (p0_pastFirst := p0_pastFirst) (p0_past := p0_past) (p0_goings := p0_goings) (p0_rowSize := p0_rowSize) (p0_ways := p0_ways) (p0_hasField := p0_hasField) (p0_fieldSize := p0_fieldSize) (p0_faultNow := p0_faultNow) (p0_hasTree := p0_hasTree) (p0_treeSize := p0_treeSize) (p0_weightCount := p0_weightCount) (p0_roundCount := p0_roundCount) (p0_setCount := p0_setCount) (p0_puts := p0_puts) (p0_takes := p0_takes) hw) (cwV 2 hts gX10_readSteps_X10_bitsOf rfl rfl rfl (by decide +kernel) ⟨Nat.le_of_ble_eq_true rfl, Nat.le_of_ble_eq_true rfl⟩) ⟨xPre_blind, va_recv hK hP (ci := 10) (q0 := 0) rfl rfl, xPre_at hK hPc hDc n1 n2⟩ rfl rfl hl.1 rfl (lv_room (Nat.le_of_ble_eq_true rfl)) dX10_readSteps_27 ⟨Nat.zero_le _, Nat.zero_le _⟩) (fun r12 u H locs hw hP hD hS => ?_)
        try dsimp only at hw
        have hP : va_P (dC, dI) vwCl (wld_X10_readSteps cI cJ cZ h_p0 ad_p0 p0_places p0_steps p0_pastFirst p0_past p0_goings p0_rowSize p0_ways p0_hasField p0_fieldSize p0_faultNow p0_hasTree p0_treeSize p0_weightCount p0_roundCount p0_setCount p0_answers p0_askers p0_puts p0_takes) H := hP
        have hD : va_D A (wld_X10_readSteps cI cJ cZ h_p0 ad_p0 p0_places p0_steps p0_pastFirst p0_past p0_goings p0_rowSize p0_ways p0_hasField p0_fieldSize p0_faultNow p0_hasTree p0_treeSize p0_weightCount p0_roundCount p0_setCount p0_answers p0_askers p0_puts p0_takes) := hD
        refine va_iast hx hb hK hP hD hS 2 0 rfl rfl hw.1 dX10_readSteps_30 (fun H locs hP hD hS => ?_)
        have hw := hw.2
        have hP : va_P (dC, dI) vwCl (wld_X10_readSteps cI cJ cZ h_p0 ad_p0 p0_places p0_steps p0_pastFirst p0_past p0_goings p0_rowSize p0_ways p0_hasField p0_fieldSize p0_faultNow p0_hasTree p0_treeSize p0_weightCount p0_roundCount p0_setCount p0_answers (upd p0_askers v2.toNatClampNeg r12) p0_puts p0_takes) H := hP
        have hD : va_D A (wld_X10_readSteps cI cJ cZ h_p0 ad_p0 p0_places p0_steps p0_pastFirst p0_past p0_goings p0_rowSize p0_ways p0_hasField p0_fieldSize p0_faultNow p0_hasTree p0_treeSize p0_weightCount p0_roundCount p0_setCount p0_answers (upd p0_askers v2.toNatClampNeg r12) p0_puts p0_takes) := hD
        refine lv_aload_n hx hb dX10_readSteps_31 rfl (lv_at hl 0 rfl) ?_
        refine va_get (D := (dC, dI)) (ci := 10) (v := .ref (ad_p0 49)) (C := RX10) (T := TX10) (N := 50) hx hb hts iX10 hown hK hP 0 rfl rfl 49 (by decide) (hts (.fieldLink RX10 121 "NetHouseModel" "answers" "[I") (by decide +kernel)) (fun _ h9 => h9) rfl dX10_readSteps_32 ?_
        refine lv_iload_n hx hb dX10_readSteps_35 rfl (lv_at hl 2 rfl) ?_
        refine lv_aload_n hx hb dX10_readSteps_36 rfl (lv_at hl 0 rfl) ?_
        refine lv_iload_n hx hb dX10_readSteps_37 rfl (lv_at hl 2 rfl) ?_
        refine lv_iload_n hx hb dX10_readSteps_38 rfl (lv_at hl 1 rfl) ?_
        refine lv_if_ne (tgt := 46) hx hb dX10_readSteps_39 (by decide) (fun c13 => ?_) (fun c14 => ?_)
        · have hw := hw.1 c13
          refine lv_iconst (v := 0) hx hb dX10_readSteps_46 (by decide) ?_
          obtain ⟨hPc, hDc⟩ := x_sub (wc := (wld_X10_bitsOf cI cJ cZ h_p0 ad_p0 p0_places p0_steps p0_pastFirst p0_past p0_goings p0_rowSize p0_ways p0_hasField p0_fieldSize p0_faultNow p0_hasTree p0_treeSize p0_weightCount p0_roundCount p0_setCount p0_puts p0_takes)) hP hD [0, 3, 4] (n := 5) rfl rfl (by decide +kernel)
          refine x_calli (ws' := fun (u : Unit) => (wld_X10_readSteps cI cJ cZ h_p0 ad_p0 p0_places p0_steps p0_pastFirst p0_past p0_goings p0_rowSize p0_ways p0_hasField p0_fieldSize p0_faultNow p0_hasTree p0_treeSize p0_weightCount p0_roundCount p0_setCount p0_answers (upd p0_askers v2.toNatClampNeg r12) p0_puts p0_takes)) hP hD hS hA [0, 3, 4] [1, 2] [2, 0, 1, 3, 4] (n := 5) (k := 3) rfl (fun _ => rfl) rfl (by decide +kernel) (fun _ => rfl) (va_runV (As := [.int v2, .int (0 : Int32)]) (rest := [.int v2, .ref (ad_p0 49)]) ⟨hx, hb, hml, hown, hts⟩ (c_X10_bitsOf (l := l) (dC := dC) (dI := dI) (cI := cI) (cJ := cJ) (cZ := cZ) (sz := H.size) (h_p0 := h_p0) (ad_p0 := ad_p0) (p0_places := p0_places) (p0_steps := p0_steps) (p0_pastFirst := p0_pastFirst) (p0_past := p0_past) (p0_goings := p0_goings) (p0_rowSize := p0_rowSize) (p0_ways := p0_ways) (p0_hasField := p0_hasField) (p0_fieldSize := p0_fieldSize) (p0_faultNow := p0_faultNow) (p0_hasTree := p0_hasTree) (p0_treeSize := p0_treeSize) (p0_weightCount := p0_weightCount) (p0_roundCount := p0_roundCount) (p0_setCount := p0_setCount) (p0_puts := p0_puts) (p0_takes := p0_takes) hw) (cwV 2 hts gX10_readSteps_X10_bitsOf rfl rfl rfl (by decide +kernel) ⟨Nat.le_of_ble_eq_true rfl, Nat.le_of_ble_eq_true rfl⟩) ⟨xPre_blind, va_recv hK hP (ci := 10) (q0 := 0) rfl rfl, xPre_at hK hPc hDc n1 n2⟩ rfl rfl hl.1 rfl (lv_room (Nat.le_of_ble_eq_true rfl)) dX10_readSteps_47 ⟨Nat.zero_le _, Nat.zero_le _⟩) (fun r15 u H locs hw hP hD hS => ?_)
          try dsimp only at hw
          have hP : va_P (dC, dI) vwCl (wld_X10_readSteps cI cJ cZ h_p0 ad_p0 p0_places p0_steps p0_pastFirst p0_past p0_goings p0_rowSize p0_ways p0_hasField p0_fieldSize p0_faultNow p0_hasTree p0_treeSize p0_weightCount p0_roundCount p0_setCount p0_answers (upd p0_askers v2.toNatClampNeg r12) p0_puts p0_takes) H := hP
          have hD : va_D A (wld_X10_readSteps cI cJ cZ h_p0 ad_p0 p0_places p0_steps p0_pastFirst p0_past p0_goings p0_rowSize p0_ways p0_hasField p0_fieldSize p0_faultNow p0_hasTree p0_treeSize p0_weightCount p0_roundCount p0_setCount p0_answers (upd p0_askers v2.toNatClampNeg r12) p0_puts p0_takes) := hD
          refine va_iast hx hb hK hP hD hS 1 0 rfl rfl hw.1 dX10_readSteps_50 (fun H locs hP hD hS => ?_)
          have hw := hw.2
          have hP : va_P (dC, dI) vwCl (wld_X10_readSteps cI cJ cZ h_p0 ad_p0 p0_places p0_steps p0_pastFirst p0_past p0_goings p0_rowSize p0_ways p0_hasField p0_fieldSize p0_faultNow p0_hasTree p0_treeSize p0_weightCount p0_roundCount p0_setCount (upd p0_answers v2.toNatClampNeg r15) (upd p0_askers v2.toNatClampNeg r12) p0_puts p0_takes) H := hP
          have hD : va_D A (wld_X10_readSteps cI cJ cZ h_p0 ad_p0 p0_places p0_steps p0_pastFirst p0_past p0_goings p0_rowSize p0_ways p0_hasField p0_fieldSize p0_faultNow p0_hasTree p0_treeSize p0_weightCount p0_roundCount p0_setCount (upd p0_answers v2.toNatClampNeg r15) (upd p0_askers v2.toNatClampNeg r12) p0_puts p0_takes) := hD
          obtain ⟨x16, ex16⟩ : ∃ y : Int32, y = v2 + (1 : Int32) := ⟨_, rfl⟩
          have hw := hw x16 ex16
          refine lv_iinc (v := x16) (lv' := [(2, .int x16), (0, .ref h_p0), (1, .int v1)]) hx hb dX10_readSteps_51 hl (k := 2) rfl (by rw [ex16]; rfl) (by decide) rfl (fun ls hl => ?_)
          refine lv_goto (tgt := 2) hx hb dX10_readSteps_54 (by decide) ?_
          exact ih _ _ _ hw _ _ _ hP hD hS (lv_sub hl [1, 2, 0] rfl)
        · have hw := hw.2 c14
          refine lv_iconst (v := 1) hx hb dX10_readSteps_42 (by decide) ?_
          refine lv_goto (tgt := 47) hx hb dX10_readSteps_43 (by decide) ?_
          obtain ⟨hPc, hDc⟩ := x_sub (wc := (wld_X10_bitsOf cI cJ cZ h_p0 ad_p0 p0_places p0_steps p0_pastFirst p0_past p0_goings p0_rowSize p0_ways p0_hasField p0_fieldSize p0_faultNow p0_hasTree p0_treeSize p0_weightCount p0_roundCount p0_setCount p0_puts p0_takes)) hP hD [0, 3, 4] (n := 5) rfl rfl (by decide +kernel)
          refine x_calli (ws' := fun (u : Unit) => (wld_X10_readSteps cI cJ cZ h_p0 ad_p0 p0_places p0_steps p0_pastFirst p0_past p0_goings p0_rowSize p0_ways p0_hasField p0_fieldSize p0_faultNow p0_hasTree p0_treeSize p0_weightCount p0_roundCount p0_setCount p0_answers (upd p0_askers v2.toNatClampNeg r12) p0_puts p0_takes)) hP hD hS hA [0, 3, 4] [1, 2] [2, 0, 1, 3, 4] (n := 5) (k := 3) rfl (fun _ => rfl) rfl (by decide +kernel) (fun _ => rfl) (va_runV (As := [.int v2, .int (1 : Int32)]) (rest := [.int v2, .ref (ad_p0 49)]) ⟨hx, hb, hml, hown, hts⟩ (c_X10_bitsOf (l := l) (dC := dC) (dI := dI) (cI := cI) (cJ := cJ) (cZ := cZ) (sz := H.size) (h_p0 := h_p0) (ad_p0 := ad_p0) (p0_places := p0_places) (p0_steps := p0_steps) (p0_pastFirst := p0_pastFirst) (p0_past := p0_past) (p0_goings := p0_goings) (p0_rowSize := p0_rowSize) (p0_ways := p0_ways) (p0_hasField := p0_hasField) (p0_fieldSize := p0_fieldSize) (p0_faultNow := p0_faultNow) (p0_hasTree := p0_hasTree) (p0_treeSize := p0_treeSize) (p0_weightCount := p0_weightCount) (p0_roundCount := p0_roundCount) (p0_setCount := p0_setCount) (p0_puts := p0_puts) (p0_takes := p0_takes) hw) (cwV 2 hts gX10_readSteps_X10_bitsOf rfl rfl rfl (by decide +kernel) ⟨Nat.le_of_ble_eq_true rfl, Nat.le_of_ble_eq_true rfl⟩) ⟨xPre_blind, va_recv hK hP (ci := 10) (q0 := 0) rfl rfl, xPre_at hK hPc hDc n1 n2⟩ rfl rfl hl.1 rfl (lv_room (Nat.le_of_ble_eq_true rfl)) dX10_readSteps_47 ⟨Nat.zero_le _, Nat.zero_le _⟩) (fun r17 u H locs hw hP hD hS => ?_)
          try dsimp only at hw
          have hP : va_P (dC, dI) vwCl (wld_X10_readSteps cI cJ cZ h_p0 ad_p0 p0_places p0_steps p0_pastFirst p0_past p0_goings p0_rowSize p0_ways p0_hasField p0_fieldSize p0_faultNow p0_hasTree p0_treeSize p0_weightCount p0_roundCount p0_setCount p0_answers (upd p0_askers v2.toNatClampNeg r12) p0_puts p0_takes) H := hP
          have hD : va_D A (wld_X10_readSteps cI cJ cZ h_p0 ad_p0 p0_places p0_steps p0_pastFirst p0_past p0_goings p0_rowSize p0_ways p0_hasField p0_fieldSize p0_faultNow p0_hasTree p0_treeSize p0_weightCount p0_roundCount p0_setCount p0_answers (upd p0_askers v2.toNatClampNeg r12) p0_puts p0_takes) := hD
          refine va_iast hx hb hK hP hD hS 1 0 rfl rfl hw.1 dX10_readSteps_50 (fun H locs hP hD hS => ?_)
          have hw := hw.2
          have hP : va_P (dC, dI) vwCl (wld_X10_readSteps cI cJ cZ h_p0 ad_p0 p0_places p0_steps p0_pastFirst p0_past p0_goings p0_rowSize p0_ways p0_hasField p0_fieldSize p0_faultNow p0_hasTree p0_treeSize p0_weightCount p0_roundCount p0_setCount (upd p0_answers v2.toNatClampNeg r17) (upd p0_askers v2.toNatClampNeg r12) p0_puts p0_takes) H := hP
          have hD : va_D A (wld_X10_readSteps cI cJ cZ h_p0 ad_p0 p0_places p0_steps p0_pastFirst p0_past p0_goings p0_rowSize p0_ways p0_hasField p0_fieldSize p0_faultNow p0_hasTree p0_treeSize p0_weightCount p0_roundCount p0_setCount (upd p0_answers v2.toNatClampNeg r17) (upd p0_askers v2.toNatClampNeg r12) p0_puts p0_takes) := hD
          obtain ⟨x18, ex18⟩ : ∃ y : Int32, y = v2 + (1 : Int32) := ⟨_, rfl⟩
          have hw := hw x18 ex18
          refine lv_iinc (v := x18) (lv' := [(2, .int x18), (0, .ref h_p0), (1, .int v1)]) hx hb dX10_readSteps_51 hl (k := 2) rfl (by rw [ex18]; rfl) (by decide) rfl (fun ls hl => ?_)
          refine lv_goto (tgt := 2) hx hb dX10_readSteps_54 (by decide) ?_
          exact ih _ _ _ hw _ _ _ hP hD hS (lv_sub hl [1, 2, 0] rfl)
set_option maxHeartbeats 4000000 in
set_option maxRecDepth 100000 in
theorem c_X10_readSteps {l : Launch} {dC : Nat → ClassId} {dI : Nat → Nat → Nat} {sz : Nat} {cI cJ cZ : ClassId} {h_p0 : Nat} {ad_p0 : Nat → Nat} {p0_places : Int32} {p0_steps : Int32} {p0_pastFirst : Int32} {p0_past : Int32} {p0_goings : Int32} {p0_rowSize : Int32} {p0_ways : Int32} {p0_hasField : Int32} {p0_fieldSize : Int32} {p0_faultNow : Int32} {p0_hasTree : Int32} {p0_treeSize : Int32} {p0_weightCount : Int32} {p0_roundCount : Int32} {p0_setCount : Int32} {p0_answers : Nat → Int32} {p0_askers : Nat → Int32} {p0_puts : Nat → Int32} {p0_takes : Nat → Int32} {a1 : Int32} {post : (Nat → Int32) → (Nat → Int32) → Prop} (hw : w_X10_readSteps p0_places p0_steps p0_answers p0_askers p0_puts p0_takes a1 post) : Met l yX10_readSteps wsX10_readSteps ({ frames := 1, cells := 0, slots := 0, locals := 25 }) (va_Pc [.ref h_p0, .int a1] (xPre (dC, dI) cI cJ cZ (wld_X10_readSteps cI cJ cZ h_p0 ad_p0 p0_places p0_steps p0_pastFirst p0_past p0_goings p0_rowSize p0_ways p0_hasField p0_fieldSize p0_faultNow p0_hasTree p0_treeSize p0_weightCount p0_roundCount p0_setCount p0_answers p0_askers p0_puts p0_takes) sz)) (q_X10_readSteps dC dI cI cJ cZ h_p0 ad_p0 p0_places p0_steps p0_pastFirst p0_past p0_goings p0_rowSize p0_ways p0_hasField p0_fieldSize p0_faultNow p0_hasTree p0_treeSize p0_weightCount p0_roundCount p0_setCount p0_answers p0_askers p0_puts p0_takes post (va_A (wld_X10_readSteps cI cJ cZ h_p0 ad_p0 p0_places p0_steps p0_pastFirst p0_past p0_goings p0_rowSize p0_ways p0_hasField p0_fieldSize p0_faultNow p0_hasTree p0_treeSize p0_weightCount p0_roundCount p0_setCount p0_answers p0_askers p0_puts p0_takes) sz)) 0 0 (va_A (wld_X10_readSteps cI cJ cZ h_p0 ad_p0 p0_places p0_steps p0_pastFirst p0_past p0_goings p0_rowSize p0_ways p0_hasField p0_fieldSize p0_faultNow p0_hasTree p0_treeSize p0_weightCount p0_roundCount p0_setCount p0_answers p0_askers p0_puts p0_takes) sz) := by
  refine x_met (cc := cX10_readSteps) (maxL := 3) (ret := none) (own := RX10) (Qc := fun A => (q_X10_readSteps dC dI cI cJ cZ h_p0 ad_p0 p0_places p0_steps p0_pastFirst p0_past p0_goings p0_rowSize p0_ways p0_hasField p0_fieldSize p0_faultNow p0_hasTree p0_treeSize p0_weightCount p0_roundCount p0_setCount p0_answers p0_askers p0_puts p0_takes post A)) (by decide) rfl rfl (Nat.le_of_ble_eq_true rfl) ?_
  intro p e s m args below meth c A ls E0 hP hD hS hl
  obtain ⟨hx, hb, hr, hml, hown, hts, hlocks, hK, hA, n1, n2⟩ := id E0
  have iX10 : ∀ w ∈ u_ws RX10 TX10 50, w ∈ wsX10_readSteps := fun w h => List.mem_cons_of_mem _ (List.mem_append_right _ h)
  have hS0 := hS
  have hl : lv_has ls 3 [(0, .ref h_p0), (1, .int a1)] := hl
  unfold w_X10_readSteps at hw
  obtain ⟨H, hH⟩ : ∃ H, H = s.heap := ⟨_, rfl⟩
  have hS : va_S A s.heap H [] := by rw [hH]; exact hS
  have hP : va_P (dC, dI) vwCl (wld_X10_readSteps cI cJ cZ h_p0 ad_p0 p0_places p0_steps p0_pastFirst p0_past p0_goings p0_rowSize p0_ways p0_hasField p0_fieldSize p0_faultNow p0_hasTree p0_treeSize p0_weightCount p0_roundCount p0_setCount p0_answers p0_askers p0_puts p0_takes) H := by rw [hH]; exact hP
  suffices hG : W p l e ({ frames := 1, cells := 0, slots := 0, locals := 25 }) s m args below meth c H [] 0 0 (MQ below (q_X10_readSteps dC dI cI cJ cZ h_p0 ad_p0 p0_places p0_steps p0_pastFirst p0_past p0_goings p0_rowSize p0_ways p0_hasField p0_fieldSize p0_faultNow p0_hasTree p0_treeSize p0_weightCount p0_roundCount p0_setCount p0_answers p0_askers p0_puts p0_takes post A) args s 0 0 A) (F0 m 0 ls []) by rw [hH] at hG; exact hG
  clear hH
  refine lv_iconst (v := 0) hx hb dX10_readSteps_0 (by decide) ?_
  refine lv_istore_n (lv' := [(2, .int (0 : Int32)), (0, .ref h_p0), (1, .int a1)]) hx hb dX10_readSteps_1 rfl hl (by decide) rfl (fun ls hl => ?_)
  obtain ⟨n19, hw⟩ := hw
  refine c_X10_readSteps_L2 (l := l) (z_p0_answers := p0_answers) (z_p0_askers := p0_askers) E0 ?_ n19 _ _ _ hw _ _ _ hP hD hS (lv_sub hl [1, 2, 0] rfl)
  · intro v20 s21 s22 H locs ls hw hP hD hS hl
    have hP : va_P (dC, dI) vwCl (wld_X10_readSteps cI cJ cZ h_p0 ad_p0 p0_places p0_steps p0_pastFirst p0_past p0_goings p0_rowSize p0_ways p0_hasField p0_fieldSize p0_faultNow p0_hasTree p0_treeSize p0_weightCount p0_roundCount p0_setCount s21 s22 p0_puts p0_takes) H := hP
    have hD : va_D A (wld_X10_readSteps cI cJ cZ h_p0 ad_p0 p0_places p0_steps p0_pastFirst p0_past p0_goings p0_rowSize p0_ways p0_hasField p0_fieldSize p0_faultNow p0_hasTree p0_treeSize p0_weightCount p0_roundCount p0_setCount s21 s22 p0_puts p0_takes) := hD
    exact x_vret (w1 := fun (u : (Nat → Int32) × (Nat → Int32)) => (wld_X10_readSteps cI cJ cZ h_p0 ad_p0 p0_places p0_steps p0_pastFirst p0_past p0_goings p0_rowSize p0_ways p0_hasField p0_fieldSize p0_faultNow p0_hasTree p0_treeSize p0_weightCount p0_roundCount p0_setCount (u.1) (u.2) p0_puts p0_takes)) hx hb hr hlocks (s21, s22) hw hP hD hS dX10_readSteps_57
abbrev wld_X10_isKept (cI cJ cZ : ClassId) (h_p0 : Nat) (ad_p0 : Nat → Nat) (p0_places : Int32) (p0_steps : Int32) (p0_pastFirst : Int32) (p0_past : Int32) (p0_goings : Int32) (p0_rowSize : Int32) (p0_ways : Int32) (p0_hasField : Int32) (p0_fieldSize : Int32) (p0_faultNow : Int32) (p0_hasTree : Int32) (p0_treeSize : Int32) (p0_weightCount : Int32) (p0_roundCount : Int32) (p0_setCount : Int32) (p0_answers : Nat → Int32) (p0_askers : Nat → Int32) : va_W := [(h_p0, .inr (10, [.int p0_places, .int p0_steps, .ref (ad_p0 2), .ref (ad_p0 3), .ref (ad_p0 4), .ref (ad_p0 5), .ref (ad_p0 6), .ref (ad_p0 7), .ref (ad_p0 8), .ref (ad_p0 9), .ref (ad_p0 10), .ref (ad_p0 11), .ref (ad_p0 12), .ref (ad_p0 13), .ref (ad_p0 14), .int p0_pastFirst, .int p0_past, .int p0_goings, .int p0_rowSize, .ref (ad_p0 19), .ref (ad_p0 20), .int p0_ways, .ref (ad_p0 22), .ref (ad_p0 23), .int p0_hasField, .int p0_fieldSize, .ref (ad_p0 26), .ref (ad_p0 27), .ref (ad_p0 28), .ref (ad_p0 29), .ref (ad_p0 30), .ref (ad_p0 31), .ref (ad_p0 32), .int p0_faultNow, .int p0_hasTree, .int p0_treeSize, .ref (ad_p0 36), .ref (ad_p0 37), .ref (ad_p0 38), .ref (ad_p0 39), .ref (ad_p0 40), .ref (ad_p0 41), .ref (ad_p0 42), .int p0_weightCount, .ref (ad_p0 44), .int p0_roundCount, .ref (ad_p0 46), .int p0_setCount, .ref (ad_p0 48), .ref (ad_p0 49)])), ((ad_p0 49), .inl (cI, 16, .inl p0_answers)), ((ad_p0 48), .inl (cI, 16, .inl p0_askers))]
abbrev q_X10_isKept (dC : Nat → ClassId) (dI : Nat → Nat → Nat) (cI cJ cZ : ClassId) (h_p0 : Nat) (ad_p0 : Nat → Nat) (p0_places : Int32) (p0_steps : Int32) (p0_pastFirst : Int32) (p0_past : Int32) (p0_goings : Int32) (p0_rowSize : Int32) (p0_ways : Int32) (p0_hasField : Int32) (p0_fieldSize : Int32) (p0_faultNow : Int32) (p0_hasTree : Int32) (p0_treeSize : Int32) (p0_weightCount : Int32) (p0_roundCount : Int32) (p0_setCount : Int32) (p0_answers : Nat → Int32) (p0_askers : Nat → Int32) (post : Int32 → Prop) (A : Nat → Prop) : Array Value → State → Outcome → State → Prop := va_Qi (fun r (u : Unit) => post r ) (fun (u : Unit) t => xPost (dC, dI) A (wld_X10_isKept cI cJ cZ h_p0 ad_p0 p0_places p0_steps p0_pastFirst p0_past p0_goings p0_rowSize p0_ways p0_hasField p0_fieldSize p0_faultNow p0_hasTree p0_treeSize p0_weightCount p0_roundCount p0_setCount p0_answers p0_askers) t) A
def w_X10_isKept_L12b (v1 : Int32) (p0_steps : Int32) (p0_answers : Nat → Int32) (p0_askers : Nat → Int32) (post : Int32 → Prop) (K : (Int32) → (Int32) → Prop) (rec : (Int32) → (Int32) → Prop) (v2 : Int32) (v3 : Int32) : Prop :=
    (p0_steps ≤ v3 →
      K v2 v3) ∧
    (¬ p0_steps ≤ v3 →
      (v2 = 0 →
        ∀ x7 : Int32, x7 = v3 + (1 : Int32) →
        rec (0 : Int32) x7) ∧
      (¬ v2 = 0 →
        vp_in v3 16 ∧
        ((v1 &&& (p0_askers v3.toNatClampNeg)) = 0 →
          ∀ x10 : Int32, x10 = v3 + (1 : Int32) →
          rec (1 : Int32) x10) ∧
        (¬ (v1 &&& (p0_askers v3.toNatClampNeg)) = 0 →
          vp_in v3 16 ∧
          ((v1 &&& (p0_answers v3.toNatClampNeg)) = 0 →
            ∀ x13 : Int32, x13 = v3 + (1 : Int32) →
            rec (0 : Int32) x13) ∧
          (¬ (v1 &&& (p0_answers v3.toNatClampNeg)) = 0 →
            ∀ x14 : Int32, x14 = v3 + (1 : Int32) →
            rec (1 : Int32) x14))))
def w_X10_isKept_L12 (v1 : Int32) (p0_steps : Int32) (p0_answers : Nat → Int32) (p0_askers : Nat → Int32) (post : Int32 → Prop) (K : (Int32) → (Int32) → Prop) : Nat → (Int32) → (Int32) → Prop
  | 0, _, _ => False
  | n + 1, v2, v3 => w_X10_isKept_L12b v1 p0_steps p0_answers p0_askers post K (w_X10_isKept_L12 v1 p0_steps p0_answers p0_askers post K n) v2 v3
def w_X10_isKept (p0_steps : Int32) (p0_answers : Nat → Int32) (p0_askers : Nat → Int32) (a1 : Int32) (post : Int32 → Prop) : Prop :=
  (a1 = 0 →
    ∃ n : Nat, w_X10_isKept_L12 a1 p0_steps p0_answers p0_askers post (fun v16 v17 =>
        v16 &&& 1 = v16 ∧
        (post v16)) n (0 : Int32) (0 : Int32)) ∧
  (¬ a1 = 0 →
    ∃ n : Nat, w_X10_isKept_L12 a1 p0_steps p0_answers p0_askers post (fun v19 v20 =>
        v19 &&& 1 = v19 ∧
        (post v19)) n (1 : Int32) (0 : Int32))
set_option maxHeartbeats 4000000 in
set_option maxRecDepth 100000 in
theorem c_X10_isKept_L12 {p : Program} {l : Launch} {e : Env} {s : State} {m : MethodId} {args : Array Value} {below : List Frame} {meth : Method} {c : Code} {dC : Nat → ClassId} {dI : Nat → Nat → Nat} {A : Nat → Prop} {cI cJ cZ : ClassId} {h_p0 : Nat} {ad_p0 : Nat → Nat} {p0_places : Int32} {p0_steps : Int32} {p0_pastFirst : Int32} {p0_past : Int32} {p0_goings : Int32} {p0_rowSize : Int32} {p0_ways : Int32} {p0_hasField : Int32} {p0_fieldSize : Int32} {p0_faultNow : Int32} {p0_hasTree : Int32} {p0_treeSize : Int32} {p0_weightCount : Int32} {p0_roundCount : Int32} {p0_setCount : Int32} {p0_answers : Nat → Int32} {p0_askers : Nat → Int32} {v1 : Int32}  {post : Int32 → Prop} {K : (Int32) → (Int32) → Prop} (E0 : xEnv p s m args meth c cX10_isKept (some .boolean) 4 RX10 wsX10_isKept (dC, dI) cI cJ cZ A) (hk : ∀ (v2 : Int32) (v3 : Int32) (H : Heap) (locs : List Loc) (ls : Array Slot), K v2 v3 → va_P (dC, dI) vwCl (wld_X10_isKept cI cJ cZ h_p0 ad_p0 p0_places p0_steps p0_pastFirst p0_past p0_goings p0_rowSize p0_ways p0_hasField p0_fieldSize p0_faultNow p0_hasTree p0_treeSize p0_weightCount p0_roundCount p0_setCount p0_answers p0_askers) H → va_D A (wld_X10_isKept cI cJ cZ h_p0 ad_p0 p0_places p0_steps p0_pastFirst p0_past p0_goings p0_rowSize p0_ways p0_hasField p0_fieldSize p0_faultNow p0_hasTree p0_treeSize p0_weightCount p0_roundCount p0_setCount p0_answers p0_askers) → va_S A s.heap H locs → lv_has ls 4 [(2, .int v2)] → W p l e ({ frames := 0, cells := 0, slots := 0, locals := 0 }) s m args below meth c H locs 0 0 (MQ below (q_X10_isKept dC dI cI cJ cZ h_p0 ad_p0 p0_places p0_steps p0_pastFirst p0_past p0_goings p0_rowSize p0_ways p0_hasField p0_fieldSize p0_faultNow p0_hasTree p0_treeSize p0_weightCount p0_roundCount p0_setCount p0_answers p0_askers post A) args s 0 0 A) (F0 m 58 ls [])) : ∀ (n : Nat) (v2 : Int32) (v3 : Int32), w_X10_isKept_L12 v1 p0_steps p0_answers p0_askers post K n v2 v3 → ∀ (H : Heap) (locs : List Loc) (ls : Array Slot), va_P (dC, dI) vwCl (wld_X10_isKept cI cJ cZ h_p0 ad_p0 p0_places p0_steps p0_pastFirst p0_past p0_goings p0_rowSize p0_ways p0_hasField p0_fieldSize p0_faultNow p0_hasTree p0_treeSize p0_weightCount p0_roundCount p0_setCount p0_answers p0_askers) H → va_D A (wld_X10_isKept cI cJ cZ h_p0 ad_p0 p0_places p0_steps p0_pastFirst p0_past p0_goings p0_rowSize p0_ways p0_hasField p0_fieldSize p0_faultNow p0_hasTree p0_treeSize p0_weightCount p0_roundCount p0_setCount p0_answers p0_askers) → va_S A s.heap H locs → lv_has ls 4 [(0, .ref h_p0), (1, .int v1), (2, .int v2), (3, .int v3)] → W p l e ({ frames := 0, cells := 0, slots := 0, locals := 0 }) s m args below meth c H locs 0 0 (MQ below (q_X10_isKept dC dI cI cJ cZ h_p0 ad_p0 p0_places p0_steps p0_pastFirst p0_past p0_goings p0_rowSize p0_ways p0_hasField p0_fieldSize p0_faultNow p0_hasTree p0_treeSize p0_weightCount p0_roundCount p0_setCount p0_answers p0_askers post A) args s 0 0 A) (F0 m 12 ls []) := by
  obtain ⟨hx, hb, hr, hml, hown, hts, hlocks, hK, hA, n1, n2⟩ := id E0
  have iX10 : ∀ w ∈ u_ws RX10 TX10 50, w ∈ wsX10_isKept := fun w h => List.mem_cons_of_mem _ (List.mem_append_right _ h)
  intro n
  induction n with
  | zero => intro v2 v3 hw; exact hw.elim
  | succ n ih =>
    intro v2 v3 hw H locs ls hP hD hS hl
    have hw : w_X10_isKept_L12b v1 p0_steps p0_answers p0_askers post K (w_X10_isKept_L12 v1 p0_steps p0_answers p0_askers post K n) v2 v3 := hw
    unfold w_X10_isKept_L12b at hw
    refine lv_iload_n hx hb dX10_isKept_12 rfl (lv_at hl 3 rfl) ?_
    refine lv_aload_n hx hb dX10_isKept_13 rfl (lv_at hl 0 rfl) ?_
    refine va_get (D := (dC, dI)) (ci := 10) (v := .int p0_steps) (C := RX10) (T := TX10) (N := 50) hx hb hts iX10 hown hK hP 0 rfl rfl 1 (by decide) (hts (.fieldLink RX10 130 "NetHouseModel" "steps" "I") (by decide +kernel)) (fun _ h9 => h9) rfl dX10_isKept_14 ?_
    refine lv_icmp_ge (tgt := 58) hx hb dX10_isKept_17 (by decide) (fun c3 => ?_) (fun c4 => ?_)
    · have hw := hw.1 c3
      exact hk _ _ _ _ _ hw hP hD hS (lv_sub hl [2] rfl)
    · have hw := hw.2 c4
      refine lv_iload_n hx hb dX10_isKept_20 rfl (lv_at hl 2 rfl) ?_
      refine lv_if_eq (tgt := 50) hx hb dX10_isKept_21 (by decide) (fun c5 => ?_) (fun c6 => ?_)
      · have hw := hw.1 c5
        refine lv_iconst (v := 0) hx hb dX10_isKept_50 (by decide) ?_
        refine lv_istore_n (lv' := [(2, .int (0 : Int32)), (0, .ref h_p0), (1, .int v1), (3, .int v3)]) hx hb dX10_isKept_51 rfl hl (by decide) rfl (fun ls hl => ?_)
        obtain ⟨x7, ex7⟩ : ∃ y : Int32, y = v3 + (1 : Int32) := ⟨_, rfl⟩
        have hw := hw x7 ex7
        refine lv_iinc (v := x7) (lv' := [(3, .int x7), (2, .int (0 : Int32)), (0, .ref h_p0), (1, .int v1)]) hx hb dX10_isKept_52 hl (k := 3) rfl (by rw [ex7]; rfl) (by decide) rfl (fun ls hl => ?_)
        refine lv_goto (tgt := 12) hx hb dX10_isKept_55 (by decide) ?_
        exact ih _ _ hw _ _ _ hP hD hS (lv_sub hl [2, 3, 1, 0] rfl)
      · have hw := hw.2 c6
        refine lv_iload_n hx hb dX10_isKept_24 rfl (lv_at hl 1 rfl) ?_
        refine lv_aload_n hx hb dX10_isKept_25 rfl (lv_at hl 0 rfl) ?_
        refine va_get (D := (dC, dI)) (ci := 10) (v := .ref (ad_p0 48)) (C := RX10) (T := TX10) (N := 50) hx hb hts iX10 hown hK hP 0 rfl rfl 48 (by decide) (hts (.fieldLink RX10 118 "NetHouseModel" "askers" "[I") (by decide +kernel)) (fun _ h9 => h9) rfl dX10_isKept_26 ?_
        refine lv_iload_n hx hb dX10_isKept_29 rfl (lv_at hl 3 rfl) ?_
        refine va_iald hx hb hK hP 2 0 rfl rfl hw.1 dX10_isKept_30 ?_
        have hw := hw.2
        refine lv_iand hx hb dX10_isKept_31 ?_
        refine lv_if_eq (tgt := 46) hx hb dX10_isKept_32 (by decide) (fun c8 => ?_) (fun c9 => ?_)
        · have hw := hw.1 c8
          refine lv_iconst (v := 1) hx hb dX10_isKept_46 (by decide) ?_
          refine lv_goto (tgt := 51) hx hb dX10_isKept_47 (by decide) ?_
          refine lv_istore_n (lv' := [(2, .int (1 : Int32)), (0, .ref h_p0), (1, .int v1), (3, .int v3)]) hx hb dX10_isKept_51 rfl hl (by decide) rfl (fun ls hl => ?_)
          obtain ⟨x10, ex10⟩ : ∃ y : Int32, y = v3 + (1 : Int32) := ⟨_, rfl⟩
          have hw := hw x10 ex10
          refine lv_iinc (v := x10) (lv' := [(3, .int x10), (2, .int (1 : Int32)), (0, .ref h_p0), (1, .int v1)]) hx hb dX10_isKept_52 hl (k := 3) rfl (by rw [ex10]; rfl) (by decide) rfl (fun ls hl => ?_)
          refine lv_goto (tgt := 12) hx hb dX10_isKept_55 (by decide) ?_
          exact ih _ _ hw _ _ _ hP hD hS (lv_sub hl [2, 3, 1, 0] rfl)
        · have hw := hw.2 c9
          refine lv_iload_n hx hb dX10_isKept_35 rfl (lv_at hl 1 rfl) ?_
          refine lv_aload_n hx hb dX10_isKept_36 rfl (lv_at hl 0 rfl) ?_
          refine va_get (D := (dC, dI)) (ci := 10) (v := .ref (ad_p0 49)) (C := RX10) (T := TX10) (N := 50) hx hb hts iX10 hown hK hP 0 rfl rfl 49 (by decide) (hts (.fieldLink RX10 121 "NetHouseModel" "answers" "[I") (by decide +kernel)) (fun _ h9 => h9) rfl dX10_isKept_37 ?_
          refine lv_iload_n hx hb dX10_isKept_40 rfl (lv_at hl 3 rfl) ?_
          refine va_iald hx hb hK hP 1 0 rfl rfl hw.1 dX10_isKept_41 ?_
          have hw := hw.2
          refine lv_iand hx hb dX10_isKept_42 ?_
          refine lv_if_eq (tgt := 50) hx hb dX10_isKept_43 (by decide) (fun c11 => ?_) (fun c12 => ?_)
          · have hw := hw.1 c11
            refine lv_iconst (v := 0) hx hb dX10_isKept_50 (by decide) ?_
            refine lv_istore_n (lv' := [(2, .int (0 : Int32)), (0, .ref h_p0), (1, .int v1), (3, .int v3)]) hx hb dX10_isKept_51 rfl hl (by decide) rfl (fun ls hl => ?_)
            obtain ⟨x13, ex13⟩ : ∃ y : Int32, y = v3 + (1 : Int32) := ⟨_, rfl⟩
            have hw := hw x13 ex13
            refine lv_iinc (v := x13) (lv' := [(3, .int x13), (2, .int (0 : Int32)), (0, .ref h_p0), (1, .int v1)]) hx hb dX10_isKept_52 hl (k := 3) rfl (by rw [ex13]; rfl) (by decide) rfl (fun ls hl => ?_)
            refine lv_goto (tgt := 12) hx hb dX10_isKept_55 (by decide) ?_
            exact ih _ _ hw _ _ _ hP hD hS (lv_sub hl [2, 3, 1, 0] rfl)
          · have hw := hw.2 c12
            refine lv_iconst (v := 1) hx hb dX10_isKept_46 (by decide) ?_
            refine lv_goto (tgt := 51) hx hb dX10_isKept_47 (by decide) ?_
            refine lv_istore_n (lv' := [(2, .int (1 : Int32)), (0, .ref h_p0), (1, .int v1), (3, .int v3)]) hx hb dX10_isKept_51 rfl hl (by decide) rfl (fun ls hl => ?_)
            obtain ⟨x14, ex14⟩ : ∃ y : Int32, y = v3 + (1 : Int32) := ⟨_, rfl⟩
            have hw := hw x14 ex14
            refine lv_iinc (v := x14) (lv' := [(3, .int x14), (2, .int (1 : Int32)), (0, .ref h_p0), (1, .int v1)]) hx hb dX10_isKept_52 hl (k := 3) rfl (by rw [ex14]; rfl) (by decide) rfl (fun ls hl => ?_)
            refine lv_goto (tgt := 12) hx hb dX10_isKept_55 (by decide) ?_
            exact ih _ _ hw _ _ _ hP hD hS (lv_sub hl [2, 3, 1, 0] rfl)
set_option maxHeartbeats 4000000 in
set_option maxRecDepth 100000 in
theorem c_X10_isKept {l : Launch} {dC : Nat → ClassId} {dI : Nat → Nat → Nat} {sz : Nat} {cI cJ cZ : ClassId} {h_p0 : Nat} {ad_p0 : Nat → Nat} {p0_places : Int32} {p0_steps : Int32} {p0_pastFirst : Int32} {p0_past : Int32} {p0_goings : Int32} {p0_rowSize : Int32} {p0_ways : Int32} {p0_hasField : Int32} {p0_fieldSize : Int32} {p0_faultNow : Int32} {p0_hasTree : Int32} {p0_treeSize : Int32} {p0_weightCount : Int32} {p0_roundCount : Int32} {p0_setCount : Int32} {p0_answers : Nat → Int32} {p0_askers : Nat → Int32} {a1 : Int32} {post : Int32 → Prop} (hw : w_X10_isKept p0_steps p0_answers p0_askers a1 post) : Met l yX10_isKept wsX10_isKept ({ frames := 0, cells := 0, slots := 0, locals := 0 }) (va_Pc [.ref h_p0, .int a1] (xPre (dC, dI) cI cJ cZ (wld_X10_isKept cI cJ cZ h_p0 ad_p0 p0_places p0_steps p0_pastFirst p0_past p0_goings p0_rowSize p0_ways p0_hasField p0_fieldSize p0_faultNow p0_hasTree p0_treeSize p0_weightCount p0_roundCount p0_setCount p0_answers p0_askers) sz)) (q_X10_isKept dC dI cI cJ cZ h_p0 ad_p0 p0_places p0_steps p0_pastFirst p0_past p0_goings p0_rowSize p0_ways p0_hasField p0_fieldSize p0_faultNow p0_hasTree p0_treeSize p0_weightCount p0_roundCount p0_setCount p0_answers p0_askers post (va_A (wld_X10_isKept cI cJ cZ h_p0 ad_p0 p0_places p0_steps p0_pastFirst p0_past p0_goings p0_rowSize p0_ways p0_hasField p0_fieldSize p0_faultNow p0_hasTree p0_treeSize p0_weightCount p0_roundCount p0_setCount p0_answers p0_askers) sz)) 0 0 (va_A (wld_X10_isKept cI cJ cZ h_p0 ad_p0 p0_places p0_steps p0_pastFirst p0_past p0_goings p0_rowSize p0_ways p0_hasField p0_fieldSize p0_faultNow p0_hasTree p0_treeSize p0_weightCount p0_roundCount p0_setCount p0_answers p0_askers) sz) := by
  refine x_met (cc := cX10_isKept) (maxL := 4) (ret := (some .boolean)) (own := RX10) (Qc := fun A => (q_X10_isKept dC dI cI cJ cZ h_p0 ad_p0 p0_places p0_steps p0_pastFirst p0_past p0_goings p0_rowSize p0_ways p0_hasField p0_fieldSize p0_faultNow p0_hasTree p0_treeSize p0_weightCount p0_roundCount p0_setCount p0_answers p0_askers post A)) (by decide) rfl rfl (Nat.le_of_ble_eq_true rfl) ?_
  intro p e s m args below meth c A ls E0 hP hD hS hl
  obtain ⟨hx, hb, hr, hml, hown, hts, hlocks, hK, hA, n1, n2⟩ := id E0
  have iX10 : ∀ w ∈ u_ws RX10 TX10 50, w ∈ wsX10_isKept := fun w h => List.mem_cons_of_mem _ (List.mem_append_right _ h)
  have hS0 := hS
  have hl : lv_has ls 4 [(0, .ref h_p0), (1, .int a1)] := hl
  unfold w_X10_isKept at hw
  obtain ⟨H, hH⟩ : ∃ H, H = s.heap := ⟨_, rfl⟩
  have hS : va_S A s.heap H [] := by rw [hH]; exact hS
  have hP : va_P (dC, dI) vwCl (wld_X10_isKept cI cJ cZ h_p0 ad_p0 p0_places p0_steps p0_pastFirst p0_past p0_goings p0_rowSize p0_ways p0_hasField p0_fieldSize p0_faultNow p0_hasTree p0_treeSize p0_weightCount p0_roundCount p0_setCount p0_answers p0_askers) H := by rw [hH]; exact hP
  suffices hG : W p l e ({ frames := 0, cells := 0, slots := 0, locals := 0 }) s m args below meth c H [] 0 0 (MQ below (q_X10_isKept dC dI cI cJ cZ h_p0 ad_p0 p0_places p0_steps p0_pastFirst p0_past p0_goings p0_rowSize p0_ways p0_hasField p0_fieldSize p0_faultNow p0_hasTree p0_treeSize p0_weightCount p0_roundCount p0_setCount p0_answers p0_askers post A) args s 0 0 A) (F0 m 0 ls []) by rw [hH] at hG; exact hG
  clear hH
  refine lv_iload_n hx hb dX10_isKept_0 rfl (lv_at hl 1 rfl) ?_
  refine lv_if_eq (tgt := 8) hx hb dX10_isKept_1 (by decide) (fun c1 => ?_) (fun c2 => ?_)
  · have hw := hw.1 c1
    refine lv_iconst (v := 0) hx hb dX10_isKept_8 (by decide) ?_
    refine lv_istore_n (lv' := [(2, .int (0 : Int32)), (0, .ref h_p0), (1, .int a1)]) hx hb dX10_isKept_9 rfl hl (by decide) rfl (fun ls hl => ?_)
    refine lv_iconst (v := 0) hx hb dX10_isKept_10 (by decide) ?_
    refine lv_istore_n (lv' := [(3, .int (0 : Int32)), (2, .int (0 : Int32)), (0, .ref h_p0), (1, .int a1)]) hx hb dX10_isKept_11 rfl hl (by decide) rfl (fun ls hl => ?_)
    obtain ⟨n15, hw⟩ := hw
    refine c_X10_isKept_L12 (l := l)  E0 ?_ n15 _ _ hw _ _ _ hP hD hS (lv_sub hl [2, 3, 1, 0] rfl)
    · intro v16 v17 H locs ls hw hP hD hS hl
      have hP : va_P (dC, dI) vwCl (wld_X10_isKept cI cJ cZ h_p0 ad_p0 p0_places p0_steps p0_pastFirst p0_past p0_goings p0_rowSize p0_ways p0_hasField p0_fieldSize p0_faultNow p0_hasTree p0_treeSize p0_weightCount p0_roundCount p0_setCount p0_answers p0_askers) H := hP
      have hD : va_D A (wld_X10_isKept cI cJ cZ h_p0 ad_p0 p0_places p0_steps p0_pastFirst p0_past p0_goings p0_rowSize p0_ways p0_hasField p0_fieldSize p0_faultNow p0_hasTree p0_treeSize p0_weightCount p0_roundCount p0_setCount p0_answers p0_askers) := hD
      refine lv_iload_n hx hb dX10_isKept_58 rfl (lv_at hl 0 rfl) ?_
      have hv := hw.1
      have hw := hw.2
      exact x_zret (w1 := fun (u : Unit) => (wld_X10_isKept cI cJ cZ h_p0 ad_p0 p0_places p0_steps p0_pastFirst p0_past p0_goings p0_rowSize p0_ways p0_hasField p0_fieldSize p0_faultNow p0_hasTree p0_treeSize p0_weightCount p0_roundCount p0_setCount p0_answers p0_askers)) hx hb hr hlocks hv () hw hP hD hS dX10_isKept_59
  · have hw := hw.2 c2
    refine lv_iconst (v := 1) hx hb dX10_isKept_4 (by decide) ?_
    refine lv_goto (tgt := 9) hx hb dX10_isKept_5 (by decide) ?_
    refine lv_istore_n (lv' := [(2, .int (1 : Int32)), (0, .ref h_p0), (1, .int a1)]) hx hb dX10_isKept_9 rfl hl (by decide) rfl (fun ls hl => ?_)
    refine lv_iconst (v := 0) hx hb dX10_isKept_10 (by decide) ?_
    refine lv_istore_n (lv' := [(3, .int (0 : Int32)), (2, .int (1 : Int32)), (0, .ref h_p0), (1, .int a1)]) hx hb dX10_isKept_11 rfl hl (by decide) rfl (fun ls hl => ?_)
    obtain ⟨n18, hw⟩ := hw
    refine c_X10_isKept_L12 (l := l)  E0 ?_ n18 _ _ hw _ _ _ hP hD hS (lv_sub hl [2, 3, 1, 0] rfl)
    · intro v19 v20 H locs ls hw hP hD hS hl
      have hP : va_P (dC, dI) vwCl (wld_X10_isKept cI cJ cZ h_p0 ad_p0 p0_places p0_steps p0_pastFirst p0_past p0_goings p0_rowSize p0_ways p0_hasField p0_fieldSize p0_faultNow p0_hasTree p0_treeSize p0_weightCount p0_roundCount p0_setCount p0_answers p0_askers) H := hP
      have hD : va_D A (wld_X10_isKept cI cJ cZ h_p0 ad_p0 p0_places p0_steps p0_pastFirst p0_past p0_goings p0_rowSize p0_ways p0_hasField p0_fieldSize p0_faultNow p0_hasTree p0_treeSize p0_weightCount p0_roundCount p0_setCount p0_answers p0_askers) := hD
      refine lv_iload_n hx hb dX10_isKept_58 rfl (lv_at hl 0 rfl) ?_
      have hv := hw.1
      have hw := hw.2
      exact x_zret (w1 := fun (u : Unit) => (wld_X10_isKept cI cJ cZ h_p0 ad_p0 p0_places p0_steps p0_pastFirst p0_past p0_goings p0_rowSize p0_ways p0_hasField p0_fieldSize p0_faultNow p0_hasTree p0_treeSize p0_weightCount p0_roundCount p0_setCount p0_answers p0_askers)) hx hb hr hlocks hv () hw hP hD hS dX10_isKept_59
abbrev wld_X10_greatestIn (cI cJ cZ : ClassId) (h_p0 : Nat) (ad_p0 : Nat → Nat) (p0_places : Int32) (p0_steps : Int32) (p0_pastFirst : Int32) (p0_past : Int32) (p0_goings : Int32) (p0_rowSize : Int32) (p0_ways : Int32) (p0_hasField : Int32) (p0_fieldSize : Int32) (p0_faultNow : Int32) (p0_hasTree : Int32) (p0_treeSize : Int32) (p0_weightCount : Int32) (p0_roundCount : Int32) (p0_setCount : Int32) (p0_answers : Nat → Int32) (p0_askers : Nat → Int32) : va_W := [(h_p0, .inr (10, [.int p0_places, .int p0_steps, .ref (ad_p0 2), .ref (ad_p0 3), .ref (ad_p0 4), .ref (ad_p0 5), .ref (ad_p0 6), .ref (ad_p0 7), .ref (ad_p0 8), .ref (ad_p0 9), .ref (ad_p0 10), .ref (ad_p0 11), .ref (ad_p0 12), .ref (ad_p0 13), .ref (ad_p0 14), .int p0_pastFirst, .int p0_past, .int p0_goings, .int p0_rowSize, .ref (ad_p0 19), .ref (ad_p0 20), .int p0_ways, .ref (ad_p0 22), .ref (ad_p0 23), .int p0_hasField, .int p0_fieldSize, .ref (ad_p0 26), .ref (ad_p0 27), .ref (ad_p0 28), .ref (ad_p0 29), .ref (ad_p0 30), .ref (ad_p0 31), .ref (ad_p0 32), .int p0_faultNow, .int p0_hasTree, .int p0_treeSize, .ref (ad_p0 36), .ref (ad_p0 37), .ref (ad_p0 38), .ref (ad_p0 39), .ref (ad_p0 40), .ref (ad_p0 41), .ref (ad_p0 42), .int p0_weightCount, .ref (ad_p0 44), .int p0_roundCount, .ref (ad_p0 46), .int p0_setCount, .ref (ad_p0 48), .ref (ad_p0 49)])), ((ad_p0 49), .inl (cI, 16, .inl p0_answers)), ((ad_p0 48), .inl (cI, 16, .inl p0_askers))]
abbrev q_X10_greatestIn (dC : Nat → ClassId) (dI : Nat → Nat → Nat) (cI cJ cZ : ClassId) (h_p0 : Nat) (ad_p0 : Nat → Nat) (p0_places : Int32) (p0_steps : Int32) (p0_pastFirst : Int32) (p0_past : Int32) (p0_goings : Int32) (p0_rowSize : Int32) (p0_ways : Int32) (p0_hasField : Int32) (p0_fieldSize : Int32) (p0_faultNow : Int32) (p0_hasTree : Int32) (p0_treeSize : Int32) (p0_weightCount : Int32) (p0_roundCount : Int32) (p0_setCount : Int32) (p0_answers : Nat → Int32) (p0_askers : Nat → Int32) (post : Int32 → Prop) (A : Nat → Prop) : Array Value → State → Outcome → State → Prop := va_Qi (fun r (u : Unit) => post r ) (fun (u : Unit) t => xPost (dC, dI) A (wld_X10_greatestIn cI cJ cZ h_p0 ad_p0 p0_places p0_steps p0_pastFirst p0_past p0_goings p0_rowSize p0_ways p0_hasField p0_fieldSize p0_faultNow p0_hasTree p0_treeSize p0_weightCount p0_roundCount p0_setCount p0_answers p0_askers) t) A
def w_X10_greatestIn_L16b (v3 : Int32) (p0_steps : Int32) (p0_answers : Nat → Int32) (p0_askers : Nat → Int32) (post : Int32 → Prop) (K : (Int32) → (Int32) → Prop) (rec : (Int32) → (Int32) → Prop) (v2 : Int32) (v4 : Int32) : Prop :=
    (p0_steps ≤ v4 →
      K v2 v4) ∧
    (¬ p0_steps ≤ v4 →
      vp_in v4 16 ∧
      (¬ (v2 &&& (p0_answers v4.toNatClampNeg)) = 0 →
        ∀ x8 : Int32, x8 = v4 + (1 : Int32) →
        rec v2 x8) ∧
      ((v2 &&& (p0_answers v4.toNatClampNeg)) = 0 →
        vp_in v4 16 ∧
        ∀ x9 : Int32, x9 = (v2 &&& ((p0_askers v4.toNatClampNeg) ^^^ (-1 : Int32))) →
        ∀ x10 : Int32, x10 = v4 + (1 : Int32) →
        rec x9 x10))
def w_X10_greatestIn_L16 (v3 : Int32) (p0_steps : Int32) (p0_answers : Nat → Int32) (p0_askers : Nat → Int32) (post : Int32 → Prop) (K : (Int32) → (Int32) → Prop) : Nat → (Int32) → (Int32) → Prop
  | 0, _, _ => False
  | n + 1, v2, v4 => w_X10_greatestIn_L16b v3 p0_steps p0_answers p0_askers post K (w_X10_greatestIn_L16 v3 p0_steps p0_answers p0_askers post K n) v2 v4
def w_X10_greatestIn_L6b (p0_steps : Int32) (p0_answers : Nat → Int32) (p0_askers : Nat → Int32) (post : Int32 → Prop) (K : (Int32) → (Int32) → Prop) (rec : (Int32) → (Int32) → Prop) (v2 : Int32) (v3 : Int32) : Prop :=
    (v2 = v3 →
      K v2 v3) ∧
    (¬ v2 = v3 →
      ∃ n : Nat, w_X10_greatestIn_L16 v2 p0_steps p0_answers p0_askers post (fun v12 v13 =>
          rec v12 v2) n v2 (0 : Int32))
def w_X10_greatestIn_L6 (p0_steps : Int32) (p0_answers : Nat → Int32) (p0_askers : Nat → Int32) (post : Int32 → Prop) (K : (Int32) → (Int32) → Prop) : Nat → (Int32) → (Int32) → Prop
  | 0, _, _ => False
  | n + 1, v2, v3 => w_X10_greatestIn_L6b p0_steps p0_answers p0_askers post K (w_X10_greatestIn_L6 p0_steps p0_answers p0_askers post K n) v2 v3
def w_X10_greatestIn (p0_steps : Int32) (p0_answers : Nat → Int32) (p0_askers : Nat → Int32) (a1 : Int32) (post : Int32 → Prop) : Prop :=
  ∀ x1 : Int32, x1 = (a1 ^^^ (-1 : Int32)) →
  ∃ n : Nat, w_X10_greatestIn_L6 p0_steps p0_answers p0_askers post (fun v15 v16 =>
      (post v15)) n a1 x1
set_option maxHeartbeats 4000000 in
set_option maxRecDepth 100000 in
theorem c_X10_greatestIn_L16 {p : Program} {l : Launch} {e : Env} {s : State} {m : MethodId} {args : Array Value} {below : List Frame} {meth : Method} {c : Code} {dC : Nat → ClassId} {dI : Nat → Nat → Nat} {A : Nat → Prop} {cI cJ cZ : ClassId} {h_p0 : Nat} {ad_p0 : Nat → Nat} {p0_places : Int32} {p0_steps : Int32} {p0_pastFirst : Int32} {p0_past : Int32} {p0_goings : Int32} {p0_rowSize : Int32} {p0_ways : Int32} {p0_hasField : Int32} {p0_fieldSize : Int32} {p0_faultNow : Int32} {p0_hasTree : Int32} {p0_treeSize : Int32} {p0_weightCount : Int32} {p0_roundCount : Int32} {p0_setCount : Int32} {p0_answers : Nat → Int32} {p0_askers : Nat → Int32} {v3 : Int32}  {post : Int32 → Prop} {K : (Int32) → (Int32) → Prop} (E0 : xEnv p s m args meth c cX10_greatestIn (some .int) 5 RX10 wsX10_greatestIn (dC, dI) cI cJ cZ A) (hk : ∀ (v2 : Int32) (v4 : Int32) (H : Heap) (locs : List Loc) (ls : Array Slot), K v2 v4 → va_P (dC, dI) vwCl (wld_X10_greatestIn cI cJ cZ h_p0 ad_p0 p0_places p0_steps p0_pastFirst p0_past p0_goings p0_rowSize p0_ways p0_hasField p0_fieldSize p0_faultNow p0_hasTree p0_treeSize p0_weightCount p0_roundCount p0_setCount p0_answers p0_askers) H → va_D A (wld_X10_greatestIn cI cJ cZ h_p0 ad_p0 p0_places p0_steps p0_pastFirst p0_past p0_goings p0_rowSize p0_ways p0_hasField p0_fieldSize p0_faultNow p0_hasTree p0_treeSize p0_weightCount p0_roundCount p0_setCount p0_answers p0_askers) → va_S A s.heap H locs → lv_has ls 5 [(0, .ref h_p0), (2, .int v2), (3, .int v3)] → W p l e ({ frames := 0, cells := 0, slots := 0, locals := 0 }) s m args below meth c H locs 0 0 (MQ below (q_X10_greatestIn dC dI cI cJ cZ h_p0 ad_p0 p0_places p0_steps p0_pastFirst p0_past p0_goings p0_rowSize p0_ways p0_hasField p0_fieldSize p0_faultNow p0_hasTree p0_treeSize p0_weightCount p0_roundCount p0_setCount p0_answers p0_askers post A) args s 0 0 A) (F0 m 59 ls [])) : ∀ (n : Nat) (v2 : Int32) (v4 : Int32), w_X10_greatestIn_L16 v3 p0_steps p0_answers p0_askers post K n v2 v4 → ∀ (H : Heap) (locs : List Loc) (ls : Array Slot), va_P (dC, dI) vwCl (wld_X10_greatestIn cI cJ cZ h_p0 ad_p0 p0_places p0_steps p0_pastFirst p0_past p0_goings p0_rowSize p0_ways p0_hasField p0_fieldSize p0_faultNow p0_hasTree p0_treeSize p0_weightCount p0_roundCount p0_setCount p0_answers p0_askers) H → va_D A (wld_X10_greatestIn cI cJ cZ h_p0 ad_p0 p0_places p0_steps p0_pastFirst p0_past p0_goings p0_rowSize p0_ways p0_hasField p0_fieldSize p0_faultNow p0_hasTree p0_treeSize p0_weightCount p0_roundCount p0_setCount p0_answers p0_askers) → va_S A s.heap H locs → lv_has ls 5 [(0, .ref h_p0), (2, .int v2), (3, .int v3), (4, .int v4)] → W p l e ({ frames := 0, cells := 0, slots := 0, locals := 0 }) s m args below meth c H locs 0 0 (MQ below (q_X10_greatestIn dC dI cI cJ cZ h_p0 ad_p0 p0_places p0_steps p0_pastFirst p0_past p0_goings p0_rowSize p0_ways p0_hasField p0_fieldSize p0_faultNow p0_hasTree p0_treeSize p0_weightCount p0_roundCount p0_setCount p0_answers p0_askers post A) args s 0 0 A) (F0 m 16 ls []) := by
  obtain ⟨hx, hb, hr, hml, hown, hts, hlocks, hK, hA, n1, n2⟩ := id E0
  have iX10 : ∀ w ∈ u_ws RX10 TX10 50, w ∈ wsX10_greatestIn := fun w h => List.mem_cons_of_mem _ (List.mem_append_right _ h)
  intro n
  induction n with
  | zero => intro v2 v4 hw; exact hw.elim
  | succ n ih =>
    intro v2 v4 hw H locs ls hP hD hS hl
    have hw : w_X10_greatestIn_L16b v3 p0_steps p0_answers p0_askers post K (w_X10_greatestIn_L16 v3 p0_steps p0_answers p0_askers post K n) v2 v4 := hw
    unfold w_X10_greatestIn_L16b at hw
    refine lv_iload hx hb dX10_greatestIn_16 (lv_at hl 3 rfl) ?_
    refine lv_aload_n hx hb dX10_greatestIn_18 rfl (lv_at hl 0 rfl) ?_
    refine va_get (D := (dC, dI)) (ci := 10) (v := .int p0_steps) (C := RX10) (T := TX10) (N := 50) hx hb hts iX10 hown hK hP 0 rfl rfl 1 (by decide) (hts (.fieldLink RX10 130 "NetHouseModel" "steps" "I") (by decide +kernel)) (fun _ h9 => h9) rfl dX10_greatestIn_19 ?_
    refine lv_icmp_ge (tgt := 59) hx hb dX10_greatestIn_22 (by decide) (fun c4 => ?_) (fun c5 => ?_)
    · have hw := hw.1 c4
      exact hk _ _ _ _ _ hw hP hD hS (lv_sub hl [0, 1, 2] rfl)
    · have hw := hw.2 c5
      refine lv_iload_n hx hb dX10_greatestIn_25 rfl (lv_at hl 1 rfl) ?_
      refine lv_aload_n hx hb dX10_greatestIn_26 rfl (lv_at hl 0 rfl) ?_
      refine va_get (D := (dC, dI)) (ci := 10) (v := .ref (ad_p0 49)) (C := RX10) (T := TX10) (N := 50) hx hb hts iX10 hown hK hP 0 rfl rfl 49 (by decide) (hts (.fieldLink RX10 121 "NetHouseModel" "answers" "[I") (by decide +kernel)) (fun _ h9 => h9) rfl dX10_greatestIn_27 ?_
      refine lv_iload hx hb dX10_greatestIn_30 (lv_at hl 3 rfl) ?_
      refine va_iald hx hb hK hP 1 0 rfl rfl hw.1 dX10_greatestIn_32 ?_
      have hw := hw.2
      refine lv_iand hx hb dX10_greatestIn_33 ?_
      refine lv_if_ne (tgt := 51) hx hb dX10_greatestIn_34 (by decide) (fun c6 => ?_) (fun c7 => ?_)
      · have hw := hw.1 c6
        refine lv_iload_n hx hb dX10_greatestIn_51 rfl (lv_at hl 1 rfl) ?_
        refine lv_istore_n (lv' := [(2, .int v2), (0, .ref h_p0), (3, .int v3), (4, .int v4)]) hx hb dX10_greatestIn_52 rfl hl (by decide) rfl (fun ls hl => ?_)
        obtain ⟨x8, ex8⟩ : ∃ y : Int32, y = v4 + (1 : Int32) := ⟨_, rfl⟩
        have hw := hw x8 ex8
        refine lv_iinc (v := x8) (lv' := [(4, .int x8), (2, .int v2), (0, .ref h_p0), (3, .int v3)]) hx hb dX10_greatestIn_53 hl (k := 3) rfl (by rw [ex8]; rfl) (by decide) rfl (fun ls hl => ?_)
        refine lv_goto (tgt := 16) hx hb dX10_greatestIn_56 (by decide) ?_
        exact ih _ _ hw _ _ _ hP hD hS (lv_sub hl [2, 1, 3, 0] rfl)
      · have hw := hw.2 c7
        refine lv_iload_n hx hb dX10_greatestIn_37 rfl (lv_at hl 1 rfl) ?_
        refine lv_aload_n hx hb dX10_greatestIn_38 rfl (lv_at hl 0 rfl) ?_
        refine va_get (D := (dC, dI)) (ci := 10) (v := .ref (ad_p0 48)) (C := RX10) (T := TX10) (N := 50) hx hb hts iX10 hown hK hP 0 rfl rfl 48 (by decide) (hts (.fieldLink RX10 118 "NetHouseModel" "askers" "[I") (by decide +kernel)) (fun _ h9 => h9) rfl dX10_greatestIn_39 ?_
        refine lv_iload hx hb dX10_greatestIn_42 (lv_at hl 3 rfl) ?_
        refine va_iald hx hb hK hP 2 0 rfl rfl hw.1 dX10_greatestIn_44 ?_
        have hw := hw.2
        refine lv_iconst (v := -1) hx hb dX10_greatestIn_45 (by decide) ?_
        refine lv_ixor hx hb dX10_greatestIn_46 ?_
        refine lv_iand hx hb dX10_greatestIn_47 ?_
        refine lv_goto (tgt := 52) hx hb dX10_greatestIn_48 (by decide) ?_
        refine lv_topi (fun x9 ex9 => ?_)
        have hw := hw x9 ex9
        refine lv_istore_n (lv' := [(2, .int x9), (0, .ref h_p0), (3, .int v3), (4, .int v4)]) hx hb dX10_greatestIn_52 rfl hl (by decide) rfl (fun ls hl => ?_)
        obtain ⟨x10, ex10⟩ : ∃ y : Int32, y = v4 + (1 : Int32) := ⟨_, rfl⟩
        have hw := hw x10 ex10
        refine lv_iinc (v := x10) (lv' := [(4, .int x10), (2, .int x9), (0, .ref h_p0), (3, .int v3)]) hx hb dX10_greatestIn_53 hl (k := 3) rfl (by rw [ex10]; rfl) (by decide) rfl (fun ls hl => ?_)
        refine lv_goto (tgt := 16) hx hb dX10_greatestIn_56 (by decide) ?_
        exact ih _ _ hw _ _ _ hP hD hS (lv_sub hl [2, 1, 3, 0] rfl)
set_option maxHeartbeats 4000000 in
set_option maxRecDepth 100000 in
theorem c_X10_greatestIn_L6 {p : Program} {l : Launch} {e : Env} {s : State} {m : MethodId} {args : Array Value} {below : List Frame} {meth : Method} {c : Code} {dC : Nat → ClassId} {dI : Nat → Nat → Nat} {A : Nat → Prop} {cI cJ cZ : ClassId} {h_p0 : Nat} {ad_p0 : Nat → Nat} {p0_places : Int32} {p0_steps : Int32} {p0_pastFirst : Int32} {p0_past : Int32} {p0_goings : Int32} {p0_rowSize : Int32} {p0_ways : Int32} {p0_hasField : Int32} {p0_fieldSize : Int32} {p0_faultNow : Int32} {p0_hasTree : Int32} {p0_treeSize : Int32} {p0_weightCount : Int32} {p0_roundCount : Int32} {p0_setCount : Int32} {p0_answers : Nat → Int32} {p0_askers : Nat → Int32}  {post : Int32 → Prop} {K : (Int32) → (Int32) → Prop} (E0 : xEnv p s m args meth c cX10_greatestIn (some .int) 5 RX10 wsX10_greatestIn (dC, dI) cI cJ cZ A) (hk : ∀ (v2 : Int32) (v3 : Int32) (H : Heap) (locs : List Loc) (ls : Array Slot), K v2 v3 → va_P (dC, dI) vwCl (wld_X10_greatestIn cI cJ cZ h_p0 ad_p0 p0_places p0_steps p0_pastFirst p0_past p0_goings p0_rowSize p0_ways p0_hasField p0_fieldSize p0_faultNow p0_hasTree p0_treeSize p0_weightCount p0_roundCount p0_setCount p0_answers p0_askers) H → va_D A (wld_X10_greatestIn cI cJ cZ h_p0 ad_p0 p0_places p0_steps p0_pastFirst p0_past p0_goings p0_rowSize p0_ways p0_hasField p0_fieldSize p0_faultNow p0_hasTree p0_treeSize p0_weightCount p0_roundCount p0_setCount p0_answers p0_askers) → va_S A s.heap H locs → lv_has ls 5 [(2, .int v2)] → W p l e ({ frames := 0, cells := 0, slots := 0, locals := 0 }) s m args below meth c H locs 0 0 (MQ below (q_X10_greatestIn dC dI cI cJ cZ h_p0 ad_p0 p0_places p0_steps p0_pastFirst p0_past p0_goings p0_rowSize p0_ways p0_hasField p0_fieldSize p0_faultNow p0_hasTree p0_treeSize p0_weightCount p0_roundCount p0_setCount p0_answers p0_askers post A) args s 0 0 A) (F0 m 62 ls [])) : ∀ (n : Nat) (v2 : Int32) (v3 : Int32), w_X10_greatestIn_L6 p0_steps p0_answers p0_askers post K n v2 v3 → ∀ (H : Heap) (locs : List Loc) (ls : Array Slot), va_P (dC, dI) vwCl (wld_X10_greatestIn cI cJ cZ h_p0 ad_p0 p0_places p0_steps p0_pastFirst p0_past p0_goings p0_rowSize p0_ways p0_hasField p0_fieldSize p0_faultNow p0_hasTree p0_treeSize p0_weightCount p0_roundCount p0_setCount p0_answers p0_askers) H → va_D A (wld_X10_greatestIn cI cJ cZ h_p0 ad_p0 p0_places p0_steps p0_pastFirst p0_past p0_goings p0_rowSize p0_ways p0_hasField p0_fieldSize p0_faultNow p0_hasTree p0_treeSize p0_weightCount p0_roundCount p0_setCount p0_answers p0_askers) → va_S A s.heap H locs → lv_has ls 5 [(0, .ref h_p0), (2, .int v2), (3, .int v3)] → W p l e ({ frames := 0, cells := 0, slots := 0, locals := 0 }) s m args below meth c H locs 0 0 (MQ below (q_X10_greatestIn dC dI cI cJ cZ h_p0 ad_p0 p0_places p0_steps p0_pastFirst p0_past p0_goings p0_rowSize p0_ways p0_hasField p0_fieldSize p0_faultNow p0_hasTree p0_treeSize p0_weightCount p0_roundCount p0_setCount p0_answers p0_askers post A) args s 0 0 A) (F0 m 6 ls []) := by
  obtain ⟨hx, hb, hr, hml, hown, hts, hlocks, hK, hA, n1, n2⟩ := id E0
  have iX10 : ∀ w ∈ u_ws RX10 TX10 50, w ∈ wsX10_greatestIn := fun w h => List.mem_cons_of_mem _ (List.mem_append_right _ h)
  intro n
  induction n with
  | zero => intro v2 v3 hw; exact hw.elim
  | succ n ih =>
    intro v2 v3 hw H locs ls hP hD hS hl
    have hw : w_X10_greatestIn_L6b p0_steps p0_answers p0_askers post K (w_X10_greatestIn_L6 p0_steps p0_answers p0_askers post K n) v2 v3 := hw
    unfold w_X10_greatestIn_L6b at hw
    refine lv_iload_n hx hb dX10_greatestIn_6 rfl (lv_at hl 1 rfl) ?_
    refine lv_iload_n hx hb dX10_greatestIn_7 rfl (lv_at hl 2 rfl) ?_
    refine lv_icmp_eq (tgt := 62) hx hb dX10_greatestIn_8 (by decide) (fun c2 => ?_) (fun c3 => ?_)
    · have hw := hw.1 c2
      exact hk _ _ _ _ _ hw hP hD hS (lv_sub hl [1] rfl)
    · have hw := hw.2 c3
      refine lv_iload_n hx hb dX10_greatestIn_11 rfl (lv_at hl 1 rfl) ?_
      refine lv_istore_n (lv' := [(3, .int v2), (0, .ref h_p0), (2, .int v2)]) hx hb dX10_greatestIn_12 rfl hl (by decide) rfl (fun ls hl => ?_)
      refine lv_iconst (v := 0) hx hb dX10_greatestIn_13 (by decide) ?_
      refine lv_istore (lv' := [(4, .int (0 : Int32)), (3, .int v2), (0, .ref h_p0), (2, .int v2)]) hx hb dX10_greatestIn_14 hl (by decide) rfl (fun ls hl => ?_)
      obtain ⟨n11, hw⟩ := hw
      refine c_X10_greatestIn_L16 (l := l)  E0 ?_ n11 _ _ hw _ _ _ hP hD hS (lv_sub hl [2, 3, 1, 0] rfl)
      · intro v12 v13 H locs ls hw hP hD hS hl
        have hP : va_P (dC, dI) vwCl (wld_X10_greatestIn cI cJ cZ h_p0 ad_p0 p0_places p0_steps p0_pastFirst p0_past p0_goings p0_rowSize p0_ways p0_hasField p0_fieldSize p0_faultNow p0_hasTree p0_treeSize p0_weightCount p0_roundCount p0_setCount p0_answers p0_askers) H := hP
        have hD : va_D A (wld_X10_greatestIn cI cJ cZ h_p0 ad_p0 p0_places p0_steps p0_pastFirst p0_past p0_goings p0_rowSize p0_ways p0_hasField p0_fieldSize p0_faultNow p0_hasTree p0_treeSize p0_weightCount p0_roundCount p0_setCount p0_answers p0_askers) := hD
        refine lv_goto (tgt := 6) hx hb dX10_greatestIn_59 (by decide) ?_
        exact ih _ _ hw _ _ _ hP hD hS (lv_sub hl [0, 1, 2] rfl)
set_option maxHeartbeats 4000000 in
set_option maxRecDepth 100000 in
theorem c_X10_greatestIn {l : Launch} {dC : Nat → ClassId} {dI : Nat → Nat → Nat} {sz : Nat} {cI cJ cZ : ClassId} {h_p0 : Nat} {ad_p0 : Nat → Nat} {p0_places : Int32} {p0_steps : Int32} {p0_pastFirst : Int32} {p0_past : Int32} {p0_goings : Int32} {p0_rowSize : Int32} {p0_ways : Int32} {p0_hasField : Int32} {p0_fieldSize : Int32} {p0_faultNow : Int32} {p0_hasTree : Int32} {p0_treeSize : Int32} {p0_weightCount : Int32} {p0_roundCount : Int32} {p0_setCount : Int32} {p0_answers : Nat → Int32} {p0_askers : Nat → Int32} {a1 : Int32} {post : Int32 → Prop} (hw : w_X10_greatestIn p0_steps p0_answers p0_askers a1 post) : Met l yX10_greatestIn wsX10_greatestIn ({ frames := 0, cells := 0, slots := 0, locals := 0 }) (va_Pc [.ref h_p0, .int a1] (xPre (dC, dI) cI cJ cZ (wld_X10_greatestIn cI cJ cZ h_p0 ad_p0 p0_places p0_steps p0_pastFirst p0_past p0_goings p0_rowSize p0_ways p0_hasField p0_fieldSize p0_faultNow p0_hasTree p0_treeSize p0_weightCount p0_roundCount p0_setCount p0_answers p0_askers) sz)) (q_X10_greatestIn dC dI cI cJ cZ h_p0 ad_p0 p0_places p0_steps p0_pastFirst p0_past p0_goings p0_rowSize p0_ways p0_hasField p0_fieldSize p0_faultNow p0_hasTree p0_treeSize p0_weightCount p0_roundCount p0_setCount p0_answers p0_askers post (va_A (wld_X10_greatestIn cI cJ cZ h_p0 ad_p0 p0_places p0_steps p0_pastFirst p0_past p0_goings p0_rowSize p0_ways p0_hasField p0_fieldSize p0_faultNow p0_hasTree p0_treeSize p0_weightCount p0_roundCount p0_setCount p0_answers p0_askers) sz)) 0 0 (va_A (wld_X10_greatestIn cI cJ cZ h_p0 ad_p0 p0_places p0_steps p0_pastFirst p0_past p0_goings p0_rowSize p0_ways p0_hasField p0_fieldSize p0_faultNow p0_hasTree p0_treeSize p0_weightCount p0_roundCount p0_setCount p0_answers p0_askers) sz) := by
  refine x_met (cc := cX10_greatestIn) (maxL := 5) (ret := (some .int)) (own := RX10) (Qc := fun A => (q_X10_greatestIn dC dI cI cJ cZ h_p0 ad_p0 p0_places p0_steps p0_pastFirst p0_past p0_goings p0_rowSize p0_ways p0_hasField p0_fieldSize p0_faultNow p0_hasTree p0_treeSize p0_weightCount p0_roundCount p0_setCount p0_answers p0_askers post A)) (by decide) rfl rfl (Nat.le_of_ble_eq_true rfl) ?_
  intro p e s m args below meth c A ls E0 hP hD hS hl
  obtain ⟨hx, hb, hr, hml, hown, hts, hlocks, hK, hA, n1, n2⟩ := id E0
  have iX10 : ∀ w ∈ u_ws RX10 TX10 50, w ∈ wsX10_greatestIn := fun w h => List.mem_cons_of_mem _ (List.mem_append_right _ h)
  have hS0 := hS
  have hl : lv_has ls 5 [(0, .ref h_p0), (1, .int a1)] := hl
  unfold w_X10_greatestIn at hw
  obtain ⟨H, hH⟩ : ∃ H, H = s.heap := ⟨_, rfl⟩
  have hS : va_S A s.heap H [] := by rw [hH]; exact hS
  have hP : va_P (dC, dI) vwCl (wld_X10_greatestIn cI cJ cZ h_p0 ad_p0 p0_places p0_steps p0_pastFirst p0_past p0_goings p0_rowSize p0_ways p0_hasField p0_fieldSize p0_faultNow p0_hasTree p0_treeSize p0_weightCount p0_roundCount p0_setCount p0_answers p0_askers) H := by rw [hH]; exact hP
  suffices hG : W p l e ({ frames := 0, cells := 0, slots := 0, locals := 0 }) s m args below meth c H [] 0 0 (MQ below (q_X10_greatestIn dC dI cI cJ cZ h_p0 ad_p0 p0_places p0_steps p0_pastFirst p0_past p0_goings p0_rowSize p0_ways p0_hasField p0_fieldSize p0_faultNow p0_hasTree p0_treeSize p0_weightCount p0_roundCount p0_setCount p0_answers p0_askers post A) args s 0 0 A) (F0 m 0 ls []) by rw [hH] at hG; exact hG
  clear hH
  refine lv_iload_n hx hb dX10_greatestIn_0 rfl (lv_at hl 1 rfl) ?_
  refine lv_istore_n (lv' := [(2, .int a1), (0, .ref h_p0), (1, .int a1)]) hx hb dX10_greatestIn_1 rfl hl (by decide) rfl (fun ls hl => ?_)
  refine lv_iload_n hx hb dX10_greatestIn_2 rfl (lv_at hl 2 rfl) ?_
  refine lv_iconst (v := -1) hx hb dX10_greatestIn_3 (by decide) ?_
  refine lv_ixor hx hb dX10_greatestIn_4 ?_
  refine lv_topi (fun x1 ex1 => ?_)
  have hw := hw x1 ex1
  refine lv_istore_n (lv' := [(3, .int x1), (2, .int a1), (0, .ref h_p0), (1, .int a1)]) hx hb dX10_greatestIn_5 rfl hl (by decide) rfl (fun ls hl => ?_)
  obtain ⟨n14, hw⟩ := hw
  refine c_X10_greatestIn_L6 (l := l)  E0 ?_ n14 _ _ hw _ _ _ hP hD hS (lv_sub hl [2, 1, 0] rfl)
  · intro v15 v16 H locs ls hw hP hD hS hl
    have hP : va_P (dC, dI) vwCl (wld_X10_greatestIn cI cJ cZ h_p0 ad_p0 p0_places p0_steps p0_pastFirst p0_past p0_goings p0_rowSize p0_ways p0_hasField p0_fieldSize p0_faultNow p0_hasTree p0_treeSize p0_weightCount p0_roundCount p0_setCount p0_answers p0_askers) H := hP
    have hD : va_D A (wld_X10_greatestIn cI cJ cZ h_p0 ad_p0 p0_places p0_steps p0_pastFirst p0_past p0_goings p0_rowSize p0_ways p0_hasField p0_fieldSize p0_faultNow p0_hasTree p0_treeSize p0_weightCount p0_roundCount p0_setCount p0_answers p0_askers) := hD
    refine lv_iload_n hx hb dX10_greatestIn_62 rfl (lv_at hl 0 rfl) ?_
    exact x_iret (w1 := fun (u : Unit) => (wld_X10_greatestIn cI cJ cZ h_p0 ad_p0 p0_places p0_steps p0_pastFirst p0_past p0_goings p0_rowSize p0_ways p0_hasField p0_fieldSize p0_faultNow p0_hasTree p0_treeSize p0_weightCount p0_roundCount p0_setCount p0_answers p0_askers)) hx hb hr hlocks () hw hP hD hS dX10_greatestIn_63
