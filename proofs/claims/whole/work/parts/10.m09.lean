abbrev wld_X10_fault (cI cJ cZ : ClassId) (h_p0 : Nat) (ad_p0 : Nat → Nat) (p0_places : Int32) (p0_steps : Int32) (p0_pastFirst : Int32) (p0_past : Int32) (p0_goings : Int32) (p0_rowSize : Int32) (p0_ways : Int32) (p0_hasField : Int32) (p0_fieldSize : Int32) (p0_faultNow : Int32) (p0_hasTree : Int32) (p0_treeSize : Int32) (p0_weightCount : Int32) (p0_roundCount : Int32) (p0_setCount : Int32) : va_W := [(h_p0, .inr (10, [.int p0_places, .int p0_steps, .ref (ad_p0 2), .ref (ad_p0 3), .ref (ad_p0 4), .ref (ad_p0 5), .ref (ad_p0 6), .ref (ad_p0 7), .ref (ad_p0 8), .ref (ad_p0 9), .ref (ad_p0 10), .ref (ad_p0 11), .ref (ad_p0 12), .ref (ad_p0 13), .ref (ad_p0 14), .int p0_pastFirst, .int p0_past, .int p0_goings, .int p0_rowSize, .ref (ad_p0 19), .ref (ad_p0 20), .int p0_ways, .ref (ad_p0 22), .ref (ad_p0 23), .int p0_hasField, .int p0_fieldSize, .ref (ad_p0 26), .ref (ad_p0 27), .ref (ad_p0 28), .ref (ad_p0 29), .ref (ad_p0 30), .ref (ad_p0 31), .ref (ad_p0 32), .int p0_faultNow, .int p0_hasTree, .int p0_treeSize, .ref (ad_p0 36), .ref (ad_p0 37), .ref (ad_p0 38), .ref (ad_p0 39), .ref (ad_p0 40), .ref (ad_p0 41), .ref (ad_p0 42), .int p0_weightCount, .ref (ad_p0 44), .int p0_roundCount, .ref (ad_p0 46), .int p0_setCount, .ref (ad_p0 48), .ref (ad_p0 49)]))]
abbrev q_X10_fault (dC : Nat → ClassId) (dI : Nat → Nat → Nat) (cI cJ cZ : ClassId) (h_p0 : Nat) (ad_p0 : Nat → Nat) (p0_places : Int32) (p0_steps : Int32) (p0_pastFirst : Int32) (p0_past : Int32) (p0_goings : Int32) (p0_rowSize : Int32) (p0_ways : Int32) (p0_hasField : Int32) (p0_fieldSize : Int32) (p0_faultNow : Int32) (p0_hasTree : Int32) (p0_treeSize : Int32) (p0_weightCount : Int32) (p0_roundCount : Int32) (p0_setCount : Int32) (post : Int32 → Prop) (A : Nat → Prop) : Array Value → State → Outcome → State → Prop := va_Qi (fun r (u : Unit) => post r ) (fun (u : Unit) t => xPost (dC, dI) A (wld_X10_fault cI cJ cZ h_p0 ad_p0 p0_places p0_steps p0_pastFirst p0_past p0_goings p0_rowSize p0_ways p0_hasField p0_fieldSize p0_faultNow p0_hasTree p0_treeSize p0_weightCount p0_roundCount p0_setCount) t) A
def w_X10_fault (p0_faultNow : Int32) (post : Int32 → Prop) : Prop :=
  (post p0_faultNow)
set_option maxHeartbeats 4000000 in
set_option maxRecDepth 100000 in
theorem c_X10_fault {l : Launch} {dC : Nat → ClassId} {dI : Nat → Nat → Nat} {sz : Nat} {cI cJ cZ : ClassId} {h_p0 : Nat} {ad_p0 : Nat → Nat} {p0_places : Int32} {p0_steps : Int32} {p0_pastFirst : Int32} {p0_past : Int32} {p0_goings : Int32} {p0_rowSize : Int32} {p0_ways : Int32} {p0_hasField : Int32} {p0_fieldSize : Int32} {p0_faultNow : Int32} {p0_hasTree : Int32} {p0_treeSize : Int32} {p0_weightCount : Int32} {p0_roundCount : Int32} {p0_setCount : Int32}  {post : Int32 → Prop} (hw : w_X10_fault p0_faultNow post) : Met l yX10_fault wsX10_fault ({ frames := 0, cells := 0, slots := 0, locals := 0 }) (va_Pc [.ref h_p0] (xPre (dC, dI) cI cJ cZ (wld_X10_fault cI cJ cZ h_p0 ad_p0 p0_places p0_steps p0_pastFirst p0_past p0_goings p0_rowSize p0_ways p0_hasField p0_fieldSize p0_faultNow p0_hasTree p0_treeSize p0_weightCount p0_roundCount p0_setCount) sz)) (q_X10_fault dC dI cI cJ cZ h_p0 ad_p0 p0_places p0_steps p0_pastFirst p0_past p0_goings p0_rowSize p0_ways p0_hasField p0_fieldSize p0_faultNow p0_hasTree p0_treeSize p0_weightCount p0_roundCount p0_setCount post (va_A (wld_X10_fault cI cJ cZ h_p0 ad_p0 p0_places p0_steps p0_pastFirst p0_past p0_goings p0_rowSize p0_ways p0_hasField p0_fieldSize p0_faultNow p0_hasTree p0_treeSize p0_weightCount p0_roundCount p0_setCount) sz)) 0 0 (va_A (wld_X10_fault cI cJ cZ h_p0 ad_p0 p0_places p0_steps p0_pastFirst p0_past p0_goings p0_rowSize p0_ways p0_hasField p0_fieldSize p0_faultNow p0_hasTree p0_treeSize p0_weightCount p0_roundCount p0_setCount) sz) := by
  refine x_met (cc := cX10_fault) (maxL := 1) (ret := (some .int)) (own := RX10) (Qc := fun A => (q_X10_fault dC dI cI cJ cZ h_p0 ad_p0 p0_places p0_steps p0_pastFirst p0_past p0_goings p0_rowSize p0_ways p0_hasField p0_fieldSize p0_faultNow p0_hasTree p0_treeSize p0_weightCount p0_roundCount p0_setCount post A)) (by decide) rfl rfl (Nat.le_of_ble_eq_true rfl) ?_
  intro p e s m args below meth c A ls E0 hP hD hS hl
  obtain ⟨hx, hb, hr, hml, hown, hts, hlocks, hK, hA, n1, n2⟩ := id E0
  have iX10 : ∀ w ∈ u_ws RX10 TX10 50, w ∈ wsX10_fault := fun w h => List.mem_cons_of_mem _ (List.mem_append_right _ h)
  have hS0 := hS
  have hl : lv_has ls 1 [(0, .ref h_p0)] := hl
  unfold w_X10_fault at hw
  obtain ⟨H, hH⟩ : ∃ H, H = s.heap := ⟨_, rfl⟩
  have hS : va_S A s.heap H [] := by rw [hH]; exact hS
  have hP : va_P (dC, dI) vwCl (wld_X10_fault cI cJ cZ h_p0 ad_p0 p0_places p0_steps p0_pastFirst p0_past p0_goings p0_rowSize p0_ways p0_hasField p0_fieldSize p0_faultNow p0_hasTree p0_treeSize p0_weightCount p0_roundCount p0_setCount) H := by rw [hH]; exact hP
  suffices hG : W p l e ({ frames := 0, cells := 0, slots := 0, locals := 0 }) s m args below meth c H [] 0 0 (MQ below (q_X10_fault dC dI cI cJ cZ h_p0 ad_p0 p0_places p0_steps p0_pastFirst p0_past p0_goings p0_rowSize p0_ways p0_hasField p0_fieldSize p0_faultNow p0_hasTree p0_treeSize p0_weightCount p0_roundCount p0_setCount post A) args s 0 0 A) (F0 m 0 ls []) by rw [hH] at hG; exact hG
  clear hH
  refine lv_aload_n hx hb dX10_fault_0 rfl (lv_at hl 0 rfl) ?_
  refine va_get (D := (dC, dI)) (ci := 10) (v := .int p0_faultNow) (C := RX10) (T := TX10) (N := 50) hx hb hts iX10 hown hK hP 0 rfl rfl 33 (by decide) (hts (.fieldLink RX10 86 "NetHouseModel" "faultNow" "I") (by decide +kernel)) (fun _ h9 => h9) rfl dX10_fault_1 ?_
  exact x_iret (w1 := fun (u : Unit) => (wld_X10_fault cI cJ cZ h_p0 ad_p0 p0_places p0_steps p0_pastFirst p0_past p0_goings p0_rowSize p0_ways p0_hasField p0_fieldSize p0_faultNow p0_hasTree p0_treeSize p0_weightCount p0_roundCount p0_setCount)) hx hb hr hlocks () hw hP hD hS dX10_fault_4
abbrev wld_X10_mayAt (cI cJ cZ : ClassId) (h_p0 : Nat) (ad_p0 : Nat → Nat) (p0_places : Int32) (p0_steps : Int32) (p0_pastFirst : Int32) (p0_past : Int32) (p0_goings : Int32) (p0_rowSize : Int32) (p0_ways : Int32) (p0_hasField : Int32) (p0_fieldSize : Int32) (p0_faultNow : Int32) (p0_hasTree : Int32) (p0_treeSize : Int32) (p0_weightCount : Int32) (p0_roundCount : Int32) (p0_setCount : Int32) (p0_needs : Nat → Int32) (p0_nodes : Nat → Int32) (p0_takes : Nat → Int32) : va_W := [(h_p0, .inr (10, [.int p0_places, .int p0_steps, .ref (ad_p0 2), .ref (ad_p0 3), .ref (ad_p0 4), .ref (ad_p0 5), .ref (ad_p0 6), .ref (ad_p0 7), .ref (ad_p0 8), .ref (ad_p0 9), .ref (ad_p0 10), .ref (ad_p0 11), .ref (ad_p0 12), .ref (ad_p0 13), .ref (ad_p0 14), .int p0_pastFirst, .int p0_past, .int p0_goings, .int p0_rowSize, .ref (ad_p0 19), .ref (ad_p0 20), .int p0_ways, .ref (ad_p0 22), .ref (ad_p0 23), .int p0_hasField, .int p0_fieldSize, .ref (ad_p0 26), .ref (ad_p0 27), .ref (ad_p0 28), .ref (ad_p0 29), .ref (ad_p0 30), .ref (ad_p0 31), .ref (ad_p0 32), .int p0_faultNow, .int p0_hasTree, .int p0_treeSize, .ref (ad_p0 36), .ref (ad_p0 37), .ref (ad_p0 38), .ref (ad_p0 39), .ref (ad_p0 40), .ref (ad_p0 41), .ref (ad_p0 42), .int p0_weightCount, .ref (ad_p0 44), .int p0_roundCount, .ref (ad_p0 46), .int p0_setCount, .ref (ad_p0 48), .ref (ad_p0 49)])), ((ad_p0 6), .inl (cI, 256, .inl p0_needs)), ((ad_p0 36), .inl (cI, 32000, .inl p0_nodes)), ((ad_p0 4), .inl (cI, 256, .inl p0_takes))]
abbrev q_X10_mayAt (dC : Nat → ClassId) (dI : Nat → Nat → Nat) (cI cJ cZ : ClassId) (h_p0 : Nat) (ad_p0 : Nat → Nat) (p0_places : Int32) (p0_steps : Int32) (p0_pastFirst : Int32) (p0_past : Int32) (p0_goings : Int32) (p0_rowSize : Int32) (p0_ways : Int32) (p0_hasField : Int32) (p0_fieldSize : Int32) (p0_faultNow : Int32) (p0_hasTree : Int32) (p0_treeSize : Int32) (p0_weightCount : Int32) (p0_roundCount : Int32) (p0_setCount : Int32) (p0_needs : Nat → Int32) (p0_nodes : Nat → Int32) (p0_takes : Nat → Int32) (post : Int32 → Prop) (A : Nat → Prop) : Array Value → State → Outcome → State → Prop := va_Qi (fun r (u : Unit) => post r ) (fun (u : Unit) t => xPost (dC, dI) A (wld_X10_mayAt cI cJ cZ h_p0 ad_p0 p0_places p0_steps p0_pastFirst p0_past p0_goings p0_rowSize p0_ways p0_hasField p0_fieldSize p0_faultNow p0_hasTree p0_treeSize p0_weightCount p0_roundCount p0_setCount p0_needs p0_nodes p0_takes) t) A
def w_X10_mayAt_L5b (v1 : Int32) (v2 : Int32) (p0_places : Int32) (p0_needs : Nat → Int32) (p0_nodes : Nat → Int32) (p0_takes : Nat → Int32) (post : Int32 → Prop) (K : (Int32) → (Int32) → Prop) (rec : (Int32) → (Int32) → Prop) (v3 : Int32) (v4 : Int32) : Prop :=
    (p0_places ≤ v4 →
      K v3 v4) ∧
    (¬ p0_places ≤ v4 →
      vp_in (((16 : Int32) * v2) + v4) 32000 ∧
      ∀ x3 : Int32, x3 = (p0_nodes (((16 : Int32) * v2) + v4).toNatClampNeg) →
      ∀ x4 : Int32, x4 = (((16 : Int32) * v1) + v4) →
      (v3 = 0 →
        ∀ x7 : Int32, x7 = v4 + (1 : Int32) →
        rec (0 : Int32) x7) ∧
      (¬ v3 = 0 →
        (x3 < 0 →
          ∀ x10 : Int32, x10 = v4 + (1 : Int32) →
          rec (1 : Int32) x10) ∧
        (¬ x3 < 0 →
          vp_in x4 256 ∧
          (x3 < (p0_takes x4.toNatClampNeg) →
            ∀ x13 : Int32, x13 = v4 + (1 : Int32) →
            rec (0 : Int32) x13) ∧
          (¬ x3 < (p0_takes x4.toNatClampNeg) →
            vp_in x4 256 ∧
            (x3 < (p0_needs x4.toNatClampNeg) →
              ∀ x16 : Int32, x16 = v4 + (1 : Int32) →
              rec (0 : Int32) x16) ∧
            (¬ x3 < (p0_needs x4.toNatClampNeg) →
              ∀ x17 : Int32, x17 = v4 + (1 : Int32) →
              rec (1 : Int32) x17)))))
def w_X10_mayAt_L5 (v1 : Int32) (v2 : Int32) (p0_places : Int32) (p0_needs : Nat → Int32) (p0_nodes : Nat → Int32) (p0_takes : Nat → Int32) (post : Int32 → Prop) (K : (Int32) → (Int32) → Prop) : Nat → (Int32) → (Int32) → Prop
  | 0, _, _ => False
  | n + 1, v3, v4 => w_X10_mayAt_L5b v1 v2 p0_places p0_needs p0_nodes p0_takes post K (w_X10_mayAt_L5 v1 v2 p0_places p0_needs p0_nodes p0_takes post K n) v3 v4
def w_X10_mayAt (p0_places : Int32) (p0_needs : Nat → Int32) (p0_nodes : Nat → Int32) (p0_takes : Nat → Int32) (a1 : Int32) (a2 : Int32) (post : Int32 → Prop) : Prop :=
  ∃ n : Nat, w_X10_mayAt_L5 a1 a2 p0_places p0_needs p0_nodes p0_takes post (fun v19 v20 =>
      v19 &&& 1 = v19 ∧
      (post v19)) n (1 : Int32) (0 : Int32)
set_option maxHeartbeats 4000000 in
set_option maxRecDepth 100000 in
theorem c_X10_mayAt_L5 {p : Program} {l : Launch} {e : Env} {s : State} {m : MethodId} {args : Array Value} {below : List Frame} {meth : Method} {c : Code} {dC : Nat → ClassId} {dI : Nat → Nat → Nat} {A : Nat → Prop} {cI cJ cZ : ClassId} {h_p0 : Nat} {ad_p0 : Nat → Nat} {p0_places : Int32} {p0_steps : Int32} {p0_pastFirst : Int32} {p0_past : Int32} {p0_goings : Int32} {p0_rowSize : Int32} {p0_ways : Int32} {p0_hasField : Int32} {p0_fieldSize : Int32} {p0_faultNow : Int32} {p0_hasTree : Int32} {p0_treeSize : Int32} {p0_weightCount : Int32} {p0_roundCount : Int32} {p0_setCount : Int32} {p0_needs : Nat → Int32} {p0_nodes : Nat → Int32} {p0_takes : Nat → Int32} {v1 : Int32} {v2 : Int32}  {post : Int32 → Prop} {K : (Int32) → (Int32) → Prop} (E0 : xEnv p s m args meth c cX10_mayAt (some .boolean) 7 RX10 wsX10_mayAt (dC, dI) cI cJ cZ A) (hk : ∀ (v3 : Int32) (v4 : Int32) (H : Heap) (locs : List Loc) (ls : Array Slot), K v3 v4 → va_P (dC, dI) vwCl (wld_X10_mayAt cI cJ cZ h_p0 ad_p0 p0_places p0_steps p0_pastFirst p0_past p0_goings p0_rowSize p0_ways p0_hasField p0_fieldSize p0_faultNow p0_hasTree p0_treeSize p0_weightCount p0_roundCount p0_setCount p0_needs p0_nodes p0_takes) H → va_D A (wld_X10_mayAt cI cJ cZ h_p0 ad_p0 p0_places p0_steps p0_pastFirst p0_past p0_goings p0_rowSize p0_ways p0_hasField p0_fieldSize p0_faultNow p0_hasTree p0_treeSize p0_weightCount p0_roundCount p0_setCount p0_needs p0_nodes p0_takes) → va_S A s.heap H locs → lv_has ls 7 [(3, .int v3)] → W p l e ({ frames := 0, cells := 0, slots := 0, locals := 0 }) s m args below meth c H locs 0 0 (MQ below (q_X10_mayAt dC dI cI cJ cZ h_p0 ad_p0 p0_places p0_steps p0_pastFirst p0_past p0_goings p0_rowSize p0_ways p0_hasField p0_fieldSize p0_faultNow p0_hasTree p0_treeSize p0_weightCount p0_roundCount p0_setCount p0_needs p0_nodes p0_takes post A) args s 0 0 A) (F0 m 82 ls [])) : ∀ (n : Nat) (v3 : Int32) (v4 : Int32), w_X10_mayAt_L5 v1 v2 p0_places p0_needs p0_nodes p0_takes post K n v3 v4 → ∀ (H : Heap) (locs : List Loc) (ls : Array Slot), va_P (dC, dI) vwCl (wld_X10_mayAt cI cJ cZ h_p0 ad_p0 p0_places p0_steps p0_pastFirst p0_past p0_goings p0_rowSize p0_ways p0_hasField p0_fieldSize p0_faultNow p0_hasTree p0_treeSize p0_weightCount p0_roundCount p0_setCount p0_needs p0_nodes p0_takes) H → va_D A (wld_X10_mayAt cI cJ cZ h_p0 ad_p0 p0_places p0_steps p0_pastFirst p0_past p0_goings p0_rowSize p0_ways p0_hasField p0_fieldSize p0_faultNow p0_hasTree p0_treeSize p0_weightCount p0_roundCount p0_setCount p0_needs p0_nodes p0_takes) → va_S A s.heap H locs → lv_has ls 7 [(0, .ref h_p0), (1, .int v1), (2, .int v2), (3, .int v3), (4, .int v4)] → W p l e ({ frames := 0, cells := 0, slots := 0, locals := 0 }) s m args below meth c H locs 0 0 (MQ below (q_X10_mayAt dC dI cI cJ cZ h_p0 ad_p0 p0_places p0_steps p0_pastFirst p0_past p0_goings p0_rowSize p0_ways p0_hasField p0_fieldSize p0_faultNow p0_hasTree p0_treeSize p0_weightCount p0_roundCount p0_setCount p0_needs p0_nodes p0_takes post A) args s 0 0 A) (F0 m 5 ls []) := by
  obtain ⟨hx, hb, hr, hml, hown, hts, hlocks, hK, hA, n1, n2⟩ := id E0
  have iX10 : ∀ w ∈ u_ws RX10 TX10 50, w ∈ wsX10_mayAt := fun w h => List.mem_cons_of_mem _ (List.mem_append_right _ h)
  intro n
  induction n with
  | zero => intro v3 v4 hw; exact hw.elim
  | succ n ih =>
    intro v3 v4 hw H locs ls hP hD hS hl
    have hw : w_X10_mayAt_L5b v1 v2 p0_places p0_needs p0_nodes p0_takes post K (w_X10_mayAt_L5 v1 v2 p0_places p0_needs p0_nodes p0_takes post K n) v3 v4 := hw
    unfold w_X10_mayAt_L5b at hw
    refine lv_iload hx hb dX10_mayAt_5 (lv_at hl 4 rfl) ?_
    refine lv_aload_n hx hb dX10_mayAt_7 rfl (lv_at hl 0 rfl) ?_
    refine va_get (D := (dC, dI)) (ci := 10) (v := .int p0_places) (C := RX10) (T := TX10) (N := 50) hx hb hts iX10 hown hK hP 0 rfl rfl 0 (by decide) (hts (.fieldLink RX10 127 "NetHouseModel" "places" "I") (by decide +kernel)) (fun _ h9 => h9) rfl dX10_mayAt_8 ?_
    refine lv_icmp_ge (tgt := 82) hx hb dX10_mayAt_11 (by decide) (fun c1 => ?_) (fun c2 => ?_)
    · have hw := hw.1 c1
      exact hk _ _ _ _ _ hw hP hD hS (lv_sub hl [3] rfl)
    · have hw := hw.2 c2
      refine lv_aload_n hx hb dX10_mayAt_14 rfl (lv_at hl 0 rfl) ?_
      refine va_get (D := (dC, dI)) (ci := 10) (v := .ref (ad_p0 36)) (C := RX10) (T := TX10) (N := 50) hx hb hts iX10 hown hK hP 0 rfl rfl 36 (by decide) (hts (.fieldLink RX10 90 "NetHouseModel" "nodes" "[I") (by decide +kernel)) (fun _ h9 => h9) rfl dX10_mayAt_15 ?_
      refine lv_bipush (v := 16) hx hb dX10_mayAt_18 (by decide) ?_
      refine lv_iload_n hx hb dX10_mayAt_20 rfl (lv_at hl 2 rfl) ?_
      refine lv_imul hx hb dX10_mayAt_21 ?_
      refine lv_iload hx hb dX10_mayAt_22 (lv_at hl 4 rfl) ?_
      refine lv_iadd hx hb dX10_mayAt_24 ?_
      refine va_iald hx hb hK hP 2 0 rfl rfl hw.1 dX10_mayAt_25 ?_
      have hw := hw.2
      refine lv_topi (fun x3 ex3 => ?_)
      have hw := hw x3 ex3
      refine lv_istore (lv' := [(5, .int x3), (0, .ref h_p0), (1, .int v1), (2, .int v2), (3, .int v3), (4, .int v4)]) hx hb dX10_mayAt_26 hl (by decide) rfl (fun ls hl => ?_)
      refine lv_bipush (v := 16) hx hb dX10_mayAt_28 (by decide) ?_
      refine lv_iload_n hx hb dX10_mayAt_30 rfl (lv_at hl 2 rfl) ?_
      refine lv_imul hx hb dX10_mayAt_31 ?_
      refine lv_iload hx hb dX10_mayAt_32 (lv_at hl 5 rfl) ?_
      refine lv_iadd hx hb dX10_mayAt_34 ?_
      refine lv_topi (fun x4 ex4 => ?_)
      have hw := hw x4 ex4
      refine lv_istore (lv' := [(6, .int x4), (5, .int x3), (0, .ref h_p0), (1, .int v1), (2, .int v2), (3, .int v3), (4, .int v4)]) hx hb dX10_mayAt_35 hl (by decide) rfl (fun ls hl => ?_)
      refine lv_iload_n hx hb dX10_mayAt_37 rfl (lv_at hl 5 rfl) ?_
      refine lv_if_eq (tgt := 74) hx hb dX10_mayAt_38 (by decide) (fun c5 => ?_) (fun c6 => ?_)
      · have hw := hw.1 c5
        refine lv_iconst (v := 0) hx hb dX10_mayAt_74 (by decide) ?_
        refine lv_istore_n (lv' := [(3, .int (0 : Int32)), (6, .int x4), (5, .int x3), (0, .ref h_p0), (1, .int v1), (2, .int v2), (4, .int v4)]) hx hb dX10_mayAt_75 rfl hl (by decide) rfl (fun ls hl => ?_)
        obtain ⟨x7, ex7⟩ : ∃ y : Int32, y = v4 + (1 : Int32) := ⟨_, rfl⟩
        have hw := hw x7 ex7
        refine lv_iinc (v := x7) (lv' := [(4, .int x7), (3, .int (0 : Int32)), (6, .int x4), (5, .int x3), (0, .ref h_p0), (1, .int v1), (2, .int v2)]) hx hb dX10_mayAt_76 hl (k := 6) rfl (by rw [ex7]; rfl) (by decide) rfl (fun ls hl => ?_)
        refine lv_goto (tgt := 5) hx hb dX10_mayAt_79 (by decide) ?_
        exact ih _ _ hw _ _ _ hP hD hS (lv_sub hl [4, 5, 6, 1, 0] rfl)
      · have hw := hw.2 c6
        refine lv_iload hx hb dX10_mayAt_41 (lv_at hl 1 rfl) ?_
        refine lv_if_lt (tgt := 70) hx hb dX10_mayAt_43 (by decide) (fun c8 => ?_) (fun c9 => ?_)
        · have hw := hw.1 c8
          refine lv_iconst (v := 1) hx hb dX10_mayAt_70 (by decide) ?_
          refine lv_goto (tgt := 75) hx hb dX10_mayAt_71 (by decide) ?_
          refine lv_istore_n (lv' := [(3, .int (1 : Int32)), (6, .int x4), (5, .int x3), (0, .ref h_p0), (1, .int v1), (2, .int v2), (4, .int v4)]) hx hb dX10_mayAt_75 rfl hl (by decide) rfl (fun ls hl => ?_)
          obtain ⟨x10, ex10⟩ : ∃ y : Int32, y = v4 + (1 : Int32) := ⟨_, rfl⟩
          have hw := hw x10 ex10
          refine lv_iinc (v := x10) (lv' := [(4, .int x10), (3, .int (1 : Int32)), (6, .int x4), (5, .int x3), (0, .ref h_p0), (1, .int v1), (2, .int v2)]) hx hb dX10_mayAt_76 hl (k := 6) rfl (by rw [ex10]; rfl) (by decide) rfl (fun ls hl => ?_)
          refine lv_goto (tgt := 5) hx hb dX10_mayAt_79 (by decide) ?_
          exact ih _ _ hw _ _ _ hP hD hS (lv_sub hl [4, 5, 6, 1, 0] rfl)
        · have hw := hw.2 c9
          refine lv_iload hx hb dX10_mayAt_46 (lv_at hl 1 rfl) ?_
          refine lv_aload_n hx hb dX10_mayAt_48 rfl (lv_at hl 2 rfl) ?_
          refine va_get (D := (dC, dI)) (ci := 10) (v := .ref (ad_p0 4)) (C := RX10) (T := TX10) (N := 50) hx hb hts iX10 hown hK hP 0 rfl rfl 4 (by decide) (hts (.fieldLink RX10 16 "NetHouseModel" "takes" "[I") (by decide +kernel)) (fun _ h9 => h9) rfl dX10_mayAt_49 ?_
          refine lv_iload hx hb dX10_mayAt_52 (lv_at hl 0 rfl) ?_
          refine va_iald hx hb hK hP 3 0 rfl rfl hw.1 dX10_mayAt_54 ?_
          have hw := hw.2
          refine lv_icmp_lt (tgt := 74) hx hb dX10_mayAt_55 (by decide) (fun c11 => ?_) (fun c12 => ?_)
          · have hw := hw.1 c11
            refine lv_iconst (v := 0) hx hb dX10_mayAt_74 (by decide) ?_
            refine lv_istore_n (lv' := [(3, .int (0 : Int32)), (6, .int x4), (5, .int x3), (0, .ref h_p0), (1, .int v1), (2, .int v2), (4, .int v4)]) hx hb dX10_mayAt_75 rfl hl (by decide) rfl (fun ls hl => ?_)
            obtain ⟨x13, ex13⟩ : ∃ y : Int32, y = v4 + (1 : Int32) := ⟨_, rfl⟩
            have hw := hw x13 ex13
            refine lv_iinc (v := x13) (lv' := [(4, .int x13), (3, .int (0 : Int32)), (6, .int x4), (5, .int x3), (0, .ref h_p0), (1, .int v1), (2, .int v2)]) hx hb dX10_mayAt_76 hl (k := 6) rfl (by rw [ex13]; rfl) (by decide) rfl (fun ls hl => ?_)
            refine lv_goto (tgt := 5) hx hb dX10_mayAt_79 (by decide) ?_
            exact ih _ _ hw _ _ _ hP hD hS (lv_sub hl [4, 5, 6, 1, 0] rfl)
          · have hw := hw.2 c12
            refine lv_iload hx hb dX10_mayAt_58 (lv_at hl 1 rfl) ?_
            refine lv_aload_n hx hb dX10_mayAt_60 rfl (lv_at hl 2 rfl) ?_
            refine va_get (D := (dC, dI)) (ci := 10) (v := .ref (ad_p0 6)) (C := RX10) (T := TX10) (N := 50) hx hb hts iX10 hown hK hP 0 rfl rfl 6 (by decide) (hts (.fieldLink RX10 22 "NetHouseModel" "needs" "[I") (by decide +kernel)) (fun _ h9 => h9) rfl dX10_mayAt_61 ?_
            refine lv_iload hx hb dX10_mayAt_64 (lv_at hl 0 rfl) ?_
            refine va_iald hx hb hK hP 1 0 rfl rfl hw.1 dX10_mayAt_66 ?_
            have hw := hw.2
            refine lv_icmp_lt (tgt := 74) hx hb dX10_mayAt_67 (by decide) (fun c14 => ?_) (fun c15 => ?_)
            · have hw := hw.1 c14
              refine lv_iconst (v := 0) hx hb dX10_mayAt_74 (by decide) ?_
              refine lv_istore_n (lv' := [(3, .int (0 : Int32)), (6, .int x4), (5, .int x3), (0, .ref h_p0), (1, .int v1), (2, .int v2), (4, .int v4)]) hx hb dX10_mayAt_75 rfl hl (by decide) rfl (fun ls hl => ?_)
              obtain ⟨x16, ex16⟩ : ∃ y : Int32, y = v4 + (1 : Int32) := ⟨_, rfl⟩
              have hw := hw x16 ex16
              refine lv_iinc (v := x16) (lv' := [(4, .int x16), (3, .int (0 : Int32)), (6, .int x4), (5, .int x3), (0, .ref h_p0), (1, .int v1), (2, .int v2)]) hx hb dX10_mayAt_76 hl (k := 6) rfl (by rw [ex16]; rfl) (by decide) rfl (fun ls hl => ?_)
              refine lv_goto (tgt := 5) hx hb dX10_mayAt_79 (by decide) ?_
              exact ih _ _ hw _ _ _ hP hD hS (lv_sub hl [4, 5, 6, 1, 0] rfl)
            · have hw := hw.2 c15
              refine lv_iconst (v := 1) hx hb dX10_mayAt_70 (by decide) ?_
              refine lv_goto (tgt := 75) hx hb dX10_mayAt_71 (by decide) ?_
              refine lv_istore_n (lv' := [(3, .int (1 : Int32)), (6, .int x4), (5, .int x3), (0, .ref h_p0), (1, .int v1), (2, .int v2), (4, .int v4)]) hx hb dX10_mayAt_75 rfl hl (by decide) rfl (fun ls hl => ?_)
              obtain ⟨x17, ex17⟩ : ∃ y : Int32, y = v4 + (1 : Int32) := ⟨_, rfl⟩
              have hw := hw x17 ex17
              refine lv_iinc (v := x17) (lv' := [(4, .int x17), (3, .int (1 : Int32)), (6, .int x4), (5, .int x3), (0, .ref h_p0), (1, .int v1), (2, .int v2)]) hx hb dX10_mayAt_76 hl (k := 6) rfl (by rw [ex17]; rfl) (by decide) rfl (fun ls hl => ?_)
              refine lv_goto (tgt := 5) hx hb dX10_mayAt_79 (by decide) ?_
              exact ih _ _ hw _ _ _ hP hD hS (lv_sub hl [4, 5, 6, 1, 0] rfl)
set_option maxHeartbeats 4000000 in
set_option maxRecDepth 100000 in
theorem c_X10_mayAt {l : Launch} {dC : Nat → ClassId} {dI : Nat → Nat → Nat} {sz : Nat} {cI cJ cZ : ClassId} {h_p0 : Nat} {ad_p0 : Nat → Nat} {p0_places : Int32} {p0_steps : Int32} {p0_pastFirst : Int32} {p0_past : Int32} {p0_goings : Int32} {p0_rowSize : Int32} {p0_ways : Int32} {p0_hasField : Int32} {p0_fieldSize : Int32} {p0_faultNow : Int32} {p0_hasTree : Int32} {p0_treeSize : Int32} {p0_weightCount : Int32} {p0_roundCount : Int32} {p0_setCount : Int32} {p0_needs : Nat → Int32} {p0_nodes : Nat → Int32} {p0_takes : Nat → Int32} {a1 : Int32} {a2 : Int32} {post : Int32 → Prop} (hw : w_X10_mayAt p0_places p0_needs p0_nodes p0_takes a1 a2 post) : Met l yX10_mayAt wsX10_mayAt ({ frames := 0, cells := 0, slots := 0, locals := 0 }) (va_Pc [.ref h_p0, .int a1, .int a2] (xPre (dC, dI) cI cJ cZ (wld_X10_mayAt cI cJ cZ h_p0 ad_p0 p0_places p0_steps p0_pastFirst p0_past p0_goings p0_rowSize p0_ways p0_hasField p0_fieldSize p0_faultNow p0_hasTree p0_treeSize p0_weightCount p0_roundCount p0_setCount p0_needs p0_nodes p0_takes) sz)) (q_X10_mayAt dC dI cI cJ cZ h_p0 ad_p0 p0_places p0_steps p0_pastFirst p0_past p0_goings p0_rowSize p0_ways p0_hasField p0_fieldSize p0_faultNow p0_hasTree p0_treeSize p0_weightCount p0_roundCount p0_setCount p0_needs p0_nodes p0_takes post (va_A (wld_X10_mayAt cI cJ cZ h_p0 ad_p0 p0_places p0_steps p0_pastFirst p0_past p0_goings p0_rowSize p0_ways p0_hasField p0_fieldSize p0_faultNow p0_hasTree p0_treeSize p0_weightCount p0_roundCount p0_setCount p0_needs p0_nodes p0_takes) sz)) 0 0 (va_A (wld_X10_mayAt cI cJ cZ h_p0 ad_p0 p0_places p0_steps p0_pastFirst p0_past p0_goings p0_rowSize p0_ways p0_hasField p0_fieldSize p0_faultNow p0_hasTree p0_treeSize p0_weightCount p0_roundCount p0_setCount p0_needs p0_nodes p0_takes) sz) := by
  refine x_met (cc := cX10_mayAt) (maxL := 7) (ret := (some .boolean)) (own := RX10) (Qc := fun A => (q_X10_mayAt dC dI cI cJ cZ h_p0 ad_p0 p0_places p0_steps p0_pastFirst p0_past p0_goings p0_rowSize p0_ways p0_hasField p0_fieldSize p0_faultNow p0_hasTree p0_treeSize p0_weightCount p0_roundCount p0_setCount p0_needs p0_nodes p0_takes post A)) (by decide) rfl rfl (Nat.le_of_ble_eq_true rfl) ?_
  intro p e s m args below meth c A ls E0 hP hD hS hl
  obtain ⟨hx, hb, hr, hml, hown, hts, hlocks, hK, hA, n1, n2⟩ := id E0
  have iX10 : ∀ w ∈ u_ws RX10 TX10 50, w ∈ wsX10_mayAt := fun w h => List.mem_cons_of_mem _ (List.mem_append_right _ h)
  have hS0 := hS
  have hl : lv_has ls 7 [(0, .ref h_p0), (1, .int a1), (2, .int a2)] := hl
  unfold w_X10_mayAt at hw
  obtain ⟨H, hH⟩ : ∃ H, H = s.heap := ⟨_, rfl⟩
  have hS : va_S A s.heap H [] := by rw [hH]; exact hS
  have hP : va_P (dC, dI) vwCl (wld_X10_mayAt cI cJ cZ h_p0 ad_p0 p0_places p0_steps p0_pastFirst p0_past p0_goings p0_rowSize p0_ways p0_hasField p0_fieldSize p0_faultNow p0_hasTree p0_treeSize p0_weightCount p0_roundCount p0_setCount p0_needs p0_nodes p0_takes) H := by rw [hH]; exact hP
  suffices hG : W p l e ({ frames := 0, cells := 0, slots := 0, locals := 0 }) s m args below meth c H [] 0 0 (MQ below (q_X10_mayAt dC dI cI cJ cZ h_p0 ad_p0 p0_places p0_steps p0_pastFirst p0_past p0_goings p0_rowSize p0_ways p0_hasField p0_fieldSize p0_faultNow p0_hasTree p0_treeSize p0_weightCount p0_roundCount p0_setCount p0_needs p0_nodes p0_takes post A) args s 0 0 A) (F0 m 0 ls []) by rw [hH] at hG; exact hG
  clear hH
  refine lv_iconst (v := 1) hx hb dX10_mayAt_0 (by decide) ?_
  refine lv_istore_n (lv' := [(3, .int (1 : Int32)), (0, .ref h_p0), (1, .int a1), (2, .int a2)]) hx hb dX10_mayAt_1 rfl hl (by decide) rfl (fun ls hl => ?_)
  refine lv_iconst (v := 0) hx hb dX10_mayAt_2 (by decide) ?_
  refine lv_istore (lv' := [(4, .int (0 : Int32)), (3, .int (1 : Int32)), (0, .ref h_p0), (1, .int a1), (2, .int a2)]) hx hb dX10_mayAt_3 hl (by decide) rfl (fun ls hl => ?_)
  obtain ⟨n18, hw⟩ := hw
  refine c_X10_mayAt_L5 (l := l)  E0 ?_ n18 _ _ hw _ _ _ hP hD hS (lv_sub hl [2, 3, 4, 1, 0] rfl)
  · intro v19 v20 H locs ls hw hP hD hS hl
    have hP : va_P (dC, dI) vwCl (wld_X10_mayAt cI cJ cZ h_p0 ad_p0 p0_places p0_steps p0_pastFirst p0_past p0_goings p0_rowSize p0_ways p0_hasField p0_fieldSize p0_faultNow p0_hasTree p0_treeSize p0_weightCount p0_roundCount p0_setCount p0_needs p0_nodes p0_takes) H := hP
    have hD : va_D A (wld_X10_mayAt cI cJ cZ h_p0 ad_p0 p0_places p0_steps p0_pastFirst p0_past p0_goings p0_rowSize p0_ways p0_hasField p0_fieldSize p0_faultNow p0_hasTree p0_treeSize p0_weightCount p0_roundCount p0_setCount p0_needs p0_nodes p0_takes) := hD
    refine lv_iload_n hx hb dX10_mayAt_82 rfl (lv_at hl 0 rfl) ?_
    have hv := hw.1
    have hw := hw.2
    exact x_zret (w1 := fun (u : Unit) => (wld_X10_mayAt cI cJ cZ h_p0 ad_p0 p0_places p0_steps p0_pastFirst p0_past p0_goings p0_rowSize p0_ways p0_hasField p0_fieldSize p0_faultNow p0_hasTree p0_treeSize p0_weightCount p0_roundCount p0_setCount p0_needs p0_nodes p0_takes)) hx hb hr hlocks hv () hw hP hD hS dX10_mayAt_83
abbrev wld_X10_isMore (cI cJ cZ : ClassId) : va_W := []
abbrev q_X10_isMore (dC : Nat → ClassId) (dI : Nat → Nat → Nat) (cI cJ cZ : ClassId) (post : Int32 → Prop) (A : Nat → Prop) : Array Value → State → Outcome → State → Prop := va_Qi (fun r (u : Unit) => post r ) (fun (u : Unit) t => xPost (dC, dI) A (wld_X10_isMore cI cJ cZ) t) A
def w_X10_isMore (a0 : Int32) (a1 : Int32) (post : Int32 → Prop) : Prop :=
  (a1 < 0 →
    (post (0 : Int32))) ∧
  (¬ a1 < 0 →
    (a0 < 0 →
      (post (1 : Int32))) ∧
    (¬ a0 < 0 →
      (a0 ≤ a1 →
        (post (0 : Int32))) ∧
      (¬ a0 ≤ a1 →
        (post (1 : Int32)))))
set_option maxHeartbeats 4000000 in
set_option maxRecDepth 100000 in
theorem c_X10_isMore {l : Launch} {dC : Nat → ClassId} {dI : Nat → Nat → Nat} {sz : Nat} {cI cJ cZ : ClassId} {a0 : Int32} {a1 : Int32} {post : Int32 → Prop} (hw : w_X10_isMore a0 a1 post) : Met l yX10_isMore wsX10_isMore ({ frames := 0, cells := 0, slots := 0, locals := 0 }) (va_Pc [.int a0, .int a1] (xPre (dC, dI) cI cJ cZ (wld_X10_isMore cI cJ cZ) sz)) (q_X10_isMore dC dI cI cJ cZ post (va_A (wld_X10_isMore cI cJ cZ) sz)) 0 0 (va_A (wld_X10_isMore cI cJ cZ) sz) := by
  refine x_met (cc := cX10_isMore) (maxL := 2) (ret := (some .boolean)) (own := RX10) (Qc := fun A => (q_X10_isMore dC dI cI cJ cZ post A)) (by decide) rfl rfl (Nat.le_of_ble_eq_true rfl) ?_
  intro p e s m args below meth c A ls E0 hP hD hS hl
  obtain ⟨hx, hb, hr, hml, hown, hts, hlocks, hK, hA, n1, n2⟩ := id E0
  have hS0 := hS
  have hl : lv_has ls 2 [(0, .int a0), (1, .int a1)] := hl
  unfold w_X10_isMore at hw
  obtain ⟨H, hH⟩ : ∃ H, H = s.heap := ⟨_, rfl⟩
  have hS : va_S A s.heap H [] := by rw [hH]; exact hS
  have hP : va_P (dC, dI) vwCl (wld_X10_isMore cI cJ cZ) H := by rw [hH]; exact hP
  suffices hG : W p l e ({ frames := 0, cells := 0, slots := 0, locals := 0 }) s m args below meth c H [] 0 0 (MQ below (q_X10_isMore dC dI cI cJ cZ post A) args s 0 0 A) (F0 m 0 ls []) by rw [hH] at hG; exact hG
  clear hH
  refine lv_iload_n hx hb dX10_isMore_0 rfl (lv_at hl 1 rfl) ?_
  refine lv_if_lt (tgt := 17) hx hb dX10_isMore_1 (by decide) (fun c1 => ?_) (fun c2 => ?_)
  · have hw := hw.1 c1
    refine lv_iconst (v := 0) hx hb dX10_isMore_17 (by decide) ?_
    exact x_zret (w1 := fun (u : Unit) => (wld_X10_isMore cI cJ cZ)) hx hb hr hlocks (by decide) () hw hP hD hS dX10_isMore_18
  · have hw := hw.2 c2
    refine lv_iload_n hx hb dX10_isMore_4 rfl (lv_at hl 0 rfl) ?_
    refine lv_if_lt (tgt := 13) hx hb dX10_isMore_5 (by decide) (fun c3 => ?_) (fun c4 => ?_)
    · have hw := hw.1 c3
      refine lv_iconst (v := 1) hx hb dX10_isMore_13 (by decide) ?_
      refine lv_goto (tgt := 18) hx hb dX10_isMore_14 (by decide) ?_
      exact x_zret (w1 := fun (u : Unit) => (wld_X10_isMore cI cJ cZ)) hx hb hr hlocks (by decide) () hw hP hD hS dX10_isMore_18
    · have hw := hw.2 c4
      refine lv_iload_n hx hb dX10_isMore_8 rfl (lv_at hl 0 rfl) ?_
      refine lv_iload_n hx hb dX10_isMore_9 rfl (lv_at hl 1 rfl) ?_
      refine lv_icmp_le (tgt := 17) hx hb dX10_isMore_10 (by decide) (fun c5 => ?_) (fun c6 => ?_)
      · have hw := hw.1 c5
        refine lv_iconst (v := 0) hx hb dX10_isMore_17 (by decide) ?_
        exact x_zret (w1 := fun (u : Unit) => (wld_X10_isMore cI cJ cZ)) hx hb hr hlocks (by decide) () hw hP hD hS dX10_isMore_18
      · have hw := hw.2 c6
        refine lv_iconst (v := 1) hx hb dX10_isMore_13 (by decide) ?_
        refine lv_goto (tgt := 18) hx hb dX10_isMore_14 (by decide) ?_
        exact x_zret (w1 := fun (u : Unit) => (wld_X10_isMore cI cJ cZ)) hx hb hr hlocks (by decide) () hw hP hD hS dX10_isMore_18
abbrev wld_X10_isWithin (cI cJ cZ : ClassId) (h_p0 : Nat) (ad_p0 : Nat → Nat) (p0_places : Int32) (p0_steps : Int32) (p0_pastFirst : Int32) (p0_past : Int32) (p0_goings : Int32) (p0_rowSize : Int32) (p0_ways : Int32) (p0_hasField : Int32) (p0_fieldSize : Int32) (p0_faultNow : Int32) (p0_hasTree : Int32) (p0_treeSize : Int32) (p0_weightCount : Int32) (p0_roundCount : Int32) (p0_setCount : Int32) (p0_nodes : Nat → Int32) : va_W := [(h_p0, .inr (10, [.int p0_places, .int p0_steps, .ref (ad_p0 2), .ref (ad_p0 3), .ref (ad_p0 4), .ref (ad_p0 5), .ref (ad_p0 6), .ref (ad_p0 7), .ref (ad_p0 8), .ref (ad_p0 9), .ref (ad_p0 10), .ref (ad_p0 11), .ref (ad_p0 12), .ref (ad_p0 13), .ref (ad_p0 14), .int p0_pastFirst, .int p0_past, .int p0_goings, .int p0_rowSize, .ref (ad_p0 19), .ref (ad_p0 20), .int p0_ways, .ref (ad_p0 22), .ref (ad_p0 23), .int p0_hasField, .int p0_fieldSize, .ref (ad_p0 26), .ref (ad_p0 27), .ref (ad_p0 28), .ref (ad_p0 29), .ref (ad_p0 30), .ref (ad_p0 31), .ref (ad_p0 32), .int p0_faultNow, .int p0_hasTree, .int p0_treeSize, .ref (ad_p0 36), .ref (ad_p0 37), .ref (ad_p0 38), .ref (ad_p0 39), .ref (ad_p0 40), .ref (ad_p0 41), .ref (ad_p0 42), .int p0_weightCount, .ref (ad_p0 44), .int p0_roundCount, .ref (ad_p0 46), .int p0_setCount, .ref (ad_p0 48), .ref (ad_p0 49)])), ((ad_p0 36), .inl (cI, 32000, .inl p0_nodes))]
abbrev q_X10_isWithin (dC : Nat → ClassId) (dI : Nat → Nat → Nat) (cI cJ cZ : ClassId) (h_p0 : Nat) (ad_p0 : Nat → Nat) (p0_places : Int32) (p0_steps : Int32) (p0_pastFirst : Int32) (p0_past : Int32) (p0_goings : Int32) (p0_rowSize : Int32) (p0_ways : Int32) (p0_hasField : Int32) (p0_fieldSize : Int32) (p0_faultNow : Int32) (p0_hasTree : Int32) (p0_treeSize : Int32) (p0_weightCount : Int32) (p0_roundCount : Int32) (p0_setCount : Int32) (p0_nodes : Nat → Int32) (post : Int32 → Prop) (A : Nat → Prop) : Array Value → State → Outcome → State → Prop := va_Qi (fun r (u : Unit) => post r ) (fun (u : Unit) t => xPost (dC, dI) A (wld_X10_isWithin cI cJ cZ h_p0 ad_p0 p0_places p0_steps p0_pastFirst p0_past p0_goings p0_rowSize p0_ways p0_hasField p0_fieldSize p0_faultNow p0_hasTree p0_treeSize p0_weightCount p0_roundCount p0_setCount p0_nodes) t) A
def w_X10_isWithin_L5b (v1 : Int32) (v2 : Int32) (p0_places : Int32) (p0_nodes : Nat → Int32) (post : Int32 → Prop) (K : (Int32) → (Int32) → Prop) (rec : (Int32) → (Int32) → Prop) (v3 : Int32) (v4 : Int32) : Prop :=
    (p0_places ≤ v4 →
      K v3 v4) ∧
    (¬ p0_places ≤ v4 →
      (v3 = 0 →
        ∀ x5 : Int32, x5 = v4 + (1 : Int32) →
        rec (0 : Int32) x5) ∧
      (¬ v3 = 0 →
        vp_in (((16 : Int32) * v1) + v4) 32000 ∧
        vp_in (((16 : Int32) * v2) + v4) 32000 ∧
        w_X10_isMore (p0_nodes (((16 : Int32) * v1) + v4).toNatClampNeg) (p0_nodes (((16 : Int32) * v2) + v4).toNatClampNeg) (fun r6 =>
        (¬ r6 = 0 →
          ∀ x9 : Int32, x9 = v4 + (1 : Int32) →
          rec (0 : Int32) x9) ∧
        (r6 = 0 →
          ∀ x10 : Int32, x10 = v4 + (1 : Int32) →
          rec (1 : Int32) x10))))
def w_X10_isWithin_L5 (v1 : Int32) (v2 : Int32) (p0_places : Int32) (p0_nodes : Nat → Int32) (post : Int32 → Prop) (K : (Int32) → (Int32) → Prop) : Nat → (Int32) → (Int32) → Prop
  | 0, _, _ => False
  | n + 1, v3, v4 => w_X10_isWithin_L5b v1 v2 p0_places p0_nodes post K (w_X10_isWithin_L5 v1 v2 p0_places p0_nodes post K n) v3 v4
def w_X10_isWithin (p0_places : Int32) (p0_nodes : Nat → Int32) (a1 : Int32) (a2 : Int32) (post : Int32 → Prop) : Prop :=
  ∃ n : Nat, w_X10_isWithin_L5 a1 a2 p0_places p0_nodes post (fun v12 v13 =>
      v12 &&& 1 = v12 ∧
      (post v12)) n (1 : Int32) (0 : Int32)
set_option maxHeartbeats 4000000 in
set_option maxRecDepth 100000 in
theorem c_X10_isWithin_L5 {p : Program} {l : Launch} {e : Env} {s : State} {m : MethodId} {args : Array Value} {below : List Frame} {meth : Method} {c : Code} {dC : Nat → ClassId} {dI : Nat → Nat → Nat} {A : Nat → Prop} {cI cJ cZ : ClassId} {h_p0 : Nat} {ad_p0 : Nat → Nat} {p0_places : Int32} {p0_steps : Int32} {p0_pastFirst : Int32} {p0_past : Int32} {p0_goings : Int32} {p0_rowSize : Int32} {p0_ways : Int32} {p0_hasField : Int32} {p0_fieldSize : Int32} {p0_faultNow : Int32} {p0_hasTree : Int32} {p0_treeSize : Int32} {p0_weightCount : Int32} {p0_roundCount : Int32} {p0_setCount : Int32} {p0_nodes : Nat → Int32} {v1 : Int32} {v2 : Int32}  {post : Int32 → Prop} {K : (Int32) → (Int32) → Prop} (E0 : xEnv p s m args meth c cX10_isWithin (some .boolean) 5 RX10 wsX10_isWithin (dC, dI) cI cJ cZ A) (hk : ∀ (v3 : Int32) (v4 : Int32) (H : Heap) (locs : List Loc) (ls : Array Slot), K v3 v4 → va_P (dC, dI) vwCl (wld_X10_isWithin cI cJ cZ h_p0 ad_p0 p0_places p0_steps p0_pastFirst p0_past p0_goings p0_rowSize p0_ways p0_hasField p0_fieldSize p0_faultNow p0_hasTree p0_treeSize p0_weightCount p0_roundCount p0_setCount p0_nodes) H → va_D A (wld_X10_isWithin cI cJ cZ h_p0 ad_p0 p0_places p0_steps p0_pastFirst p0_past p0_goings p0_rowSize p0_ways p0_hasField p0_fieldSize p0_faultNow p0_hasTree p0_treeSize p0_weightCount p0_roundCount p0_setCount p0_nodes) → va_S A s.heap H locs → lv_has ls 5 [(3, .int v3)] → W p l e ({ frames := 1, cells := 0, slots := 0, locals := 21 }) s m args below meth c H locs 0 0 (MQ below (q_X10_isWithin dC dI cI cJ cZ h_p0 ad_p0 p0_places p0_steps p0_pastFirst p0_past p0_goings p0_rowSize p0_ways p0_hasField p0_fieldSize p0_faultNow p0_hasTree p0_treeSize p0_weightCount p0_roundCount p0_setCount p0_nodes post A) args s 0 0 A) (F0 m 60 ls [])) : ∀ (n : Nat) (v3 : Int32) (v4 : Int32), w_X10_isWithin_L5 v1 v2 p0_places p0_nodes post K n v3 v4 → ∀ (H : Heap) (locs : List Loc) (ls : Array Slot), va_P (dC, dI) vwCl (wld_X10_isWithin cI cJ cZ h_p0 ad_p0 p0_places p0_steps p0_pastFirst p0_past p0_goings p0_rowSize p0_ways p0_hasField p0_fieldSize p0_faultNow p0_hasTree p0_treeSize p0_weightCount p0_roundCount p0_setCount p0_nodes) H → va_D A (wld_X10_isWithin cI cJ cZ h_p0 ad_p0 p0_places p0_steps p0_pastFirst p0_past p0_goings p0_rowSize p0_ways p0_hasField p0_fieldSize p0_faultNow p0_hasTree p0_treeSize p0_weightCount p0_roundCount p0_setCount p0_nodes) → va_S A s.heap H locs → lv_has ls 5 [(0, .ref h_p0), (1, .int v1), (2, .int v2), (3, .int v3), (4, .int v4)] → W p l e ({ frames := 1, cells := 0, slots := 0, locals := 21 }) s m args below meth c H locs 0 0 (MQ below (q_X10_isWithin dC dI cI cJ cZ h_p0 ad_p0 p0_places p0_steps p0_pastFirst p0_past p0_goings p0_rowSize p0_ways p0_hasField p0_fieldSize p0_faultNow p0_hasTree p0_treeSize p0_weightCount p0_roundCount p0_setCount p0_nodes post A) args s 0 0 A) (F0 m 5 ls []) := by
  obtain ⟨hx, hb, hr, hml, hown, hts, hlocks, hK, hA, n1, n2⟩ := id E0
  have iX10 : ∀ w ∈ u_ws RX10 TX10 50, w ∈ wsX10_isWithin := fun w h => List.mem_cons_of_mem _ (List.mem_append_right _ h)
  intro n
  induction n with
  | zero => intro v3 v4 hw; exact hw.elim
  | succ n ih =>
    intro v3 v4 hw H locs ls hP hD hS hl
    have hw : w_X10_isWithin_L5b v1 v2 p0_places p0_nodes post K (w_X10_isWithin_L5 v1 v2 p0_places p0_nodes post K n) v3 v4 := hw
    unfold w_X10_isWithin_L5b at hw
    refine lv_iload hx hb dX10_isWithin_5 (lv_at hl 4 rfl) ?_
    refine lv_aload_n hx hb dX10_isWithin_7 rfl (lv_at hl 0 rfl) ?_
    refine va_get (D := (dC, dI)) (ci := 10) (v := .int p0_places) (C := RX10) (T := TX10) (N := 50) hx hb hts iX10 hown hK hP 0 rfl rfl 0 (by decide) (hts (.fieldLink RX10 127 "NetHouseModel" "places" "I") (by decide +kernel)) (fun _ h9 => h9) rfl dX10_isWithin_8 ?_
    refine lv_icmp_ge (tgt := 60) hx hb dX10_isWithin_11 (by decide) (fun c1 => ?_) (fun c2 => ?_)
    · have hw := hw.1 c1
      exact hk _ _ _ _ _ hw hP hD hS (lv_sub hl [3] rfl)
    · have hw := hw.2 c2
      refine lv_iload_n hx hb dX10_isWithin_14 rfl (lv_at hl 3 rfl) ?_
      refine lv_if_eq (tgt := 52) hx hb dX10_isWithin_15 (by decide) (fun c3 => ?_) (fun c4 => ?_)
      · have hw := hw.1 c3
        refine lv_iconst (v := 0) hx hb dX10_isWithin_52 (by decide) ?_
        refine lv_istore_n (lv' := [(3, .int (0 : Int32)), (0, .ref h_p0), (1, .int v1), (2, .int v2), (4, .int v4)]) hx hb dX10_isWithin_53 rfl hl (by decide) rfl (fun ls hl => ?_)
        obtain ⟨x5, ex5⟩ : ∃ y : Int32, y = v4 + (1 : Int32) := ⟨_, rfl⟩
        have hw := hw x5 ex5
        refine lv_iinc (v := x5) (lv' := [(4, .int x5), (3, .int (0 : Int32)), (0, .ref h_p0), (1, .int v1), (2, .int v2)]) hx hb dX10_isWithin_54 hl (k := 4) rfl (by rw [ex5]; rfl) (by decide) rfl (fun ls hl => ?_)
        refine lv_goto (tgt := 5) hx hb dX10_isWithin_57 (by decide) ?_
        exact ih _ _ hw _ _ _ hP hD hS (lv_sub hl [2, 3, 4, 1, 0] rfl)
      · have hw := hw.2 c4
        refine lv_aload_n hx hb dX10_isWithin_18 rfl (lv_at hl 0 rfl) ?_
        refine va_get (D := (dC, dI)) (ci := 10) (v := .ref (ad_p0 36)) (C := RX10) (T := TX10) (N := 50) hx hb hts iX10 hown hK hP 0 rfl rfl 36 (by decide) (hts (.fieldLink RX10 90 "NetHouseModel" "nodes" "[I") (by decide +kernel)) (fun _ h9 => h9) rfl dX10_isWithin_19 ?_
        refine lv_bipush (v := 16) hx hb dX10_isWithin_22 (by decide) ?_
        refine lv_iload_n hx hb dX10_isWithin_24 rfl (lv_at hl 1 rfl) ?_
        refine lv_imul hx hb dX10_isWithin_25 ?_
        refine lv_iload hx hb dX10_isWithin_26 (lv_at hl 4 rfl) ?_
        refine lv_iadd hx hb dX10_isWithin_28 ?_
        refine va_iald hx hb hK hP 1 0 rfl rfl hw.1 dX10_isWithin_29 ?_
        have hw := hw.2
        refine lv_aload_n hx hb dX10_isWithin_30 rfl (lv_at hl 0 rfl) ?_
        refine va_get (D := (dC, dI)) (ci := 10) (v := .ref (ad_p0 36)) (C := RX10) (T := TX10) (N := 50) hx hb hts iX10 hown hK hP 0 rfl rfl 36 (by decide) (hts (.fieldLink RX10 90 "NetHouseModel" "nodes" "[I") (by decide +kernel)) (fun _ h9 => h9) rfl dX10_isWithin_31 ?_
        refine lv_bipush (v := 16) hx hb dX10_isWithin_34 (by decide) ?_
        refine lv_iload_n hx hb dX10_isWithin_36 rfl (lv_at hl 2 rfl) ?_
        refine lv_imul hx hb dX10_isWithin_37 ?_
        refine lv_iload hx hb dX10_isWithin_38 (lv_at hl 4 rfl) ?_
        refine lv_iadd hx hb dX10_isWithin_40 ?_
        refine va_iald hx hb hK hP 1 0 rfl rfl hw.1 dX10_isWithin_41 ?_
        have hw := hw.2
        obtain ⟨hPc, hDc⟩ := x_sub (wc := (wld_X10_isMore cI cJ cZ )) hP hD [] (n := 2) rfl rfl (by decide +kernel)
        refine x_calli (ws' := fun (u : Unit) => (wld_X10_isWithin cI cJ cZ h_p0 ad_p0 p0_places p0_steps p0_pastFirst p0_past p0_goings p0_rowSize p0_ways p0_hasField p0_fieldSize p0_faultNow p0_hasTree p0_treeSize p0_weightCount p0_roundCount p0_setCount p0_nodes)) hP hD hS hA [] [0, 1] [0, 1] (n := 2) (k := 0) rfl (fun _ => rfl) rfl (by decide +kernel) (fun _ => rfl) (va_runS (As := [.int (p0_nodes (((16 : Int32) * v1) + v4).toNatClampNeg), .int (p0_nodes (((16 : Int32) * v2) + v4).toNatClampNeg)]) (rest := []) ⟨hx, hb, hml, hown, hts⟩ (c_X10_isMore (l := l) (dC := dC) (dI := dI) (cI := cI) (cJ := cJ) (cZ := cZ) (sz := H.size) hw) (va_cwS 2 hts gX10_isWithin_X10_isMore rfl rfl rfl (by decide +kernel) ⟨Nat.le_of_ble_eq_true rfl, Nat.le_of_ble_eq_true rfl⟩) ⟨xPre_blind, xPre_at hK hPc hDc n1 n2⟩ rfl rfl hl.1 rfl (lv_room (Nat.le_of_ble_eq_true rfl)) dX10_isWithin_42 ⟨Nat.zero_le _, Nat.zero_le _⟩) (fun r6 u H locs hw hP hD hS => ?_)
        try dsimp only at hw
        have hP : va_P (dC, dI) vwCl (wld_X10_isWithin cI cJ cZ h_p0 ad_p0 p0_places p0_steps p0_pastFirst p0_past p0_goings p0_rowSize p0_ways p0_hasField p0_fieldSize p0_faultNow p0_hasTree p0_treeSize p0_weightCount p0_roundCount p0_setCount p0_nodes) H := hP
        have hD : va_D A (wld_X10_isWithin cI cJ cZ h_p0 ad_p0 p0_places p0_steps p0_pastFirst p0_past p0_goings p0_rowSize p0_ways p0_hasField p0_fieldSize p0_faultNow p0_hasTree p0_treeSize p0_weightCount p0_roundCount p0_setCount p0_nodes) := hD
        refine lv_if_ne (tgt := 52) hx hb dX10_isWithin_45 (by decide) (fun c7 => ?_) (fun c8 => ?_)
        · have hw := hw.1 c7
          refine lv_iconst (v := 0) hx hb dX10_isWithin_52 (by decide) ?_
          refine lv_istore_n (lv' := [(3, .int (0 : Int32)), (0, .ref h_p0), (1, .int v1), (2, .int v2), (4, .int v4)]) hx hb dX10_isWithin_53 rfl hl (by decide) rfl (fun ls hl => ?_)
          obtain ⟨x9, ex9⟩ : ∃ y : Int32, y = v4 + (1 : Int32) := ⟨_, rfl⟩
          have hw := hw x9 ex9
          refine lv_iinc (v := x9) (lv' := [(4, .int x9), (3, .int (0 : Int32)), (0, .ref h_p0), (1, .int v1), (2, .int v2)]) hx hb dX10_isWithin_54 hl (k := 4) rfl (by rw [ex9]; rfl) (by decide) rfl (fun ls hl => ?_)
          refine lv_goto (tgt := 5) hx hb dX10_isWithin_57 (by decide) ?_
          exact ih _ _ hw _ _ _ hP hD hS (lv_sub hl [2, 3, 4, 1, 0] rfl)
        · have hw := hw.2 c8
          refine lv_iconst (v := 1) hx hb dX10_isWithin_48 (by decide) ?_
          refine lv_goto (tgt := 53) hx hb dX10_isWithin_49 (by decide) ?_
          refine lv_istore_n (lv' := [(3, .int (1 : Int32)), (0, .ref h_p0), (1, .int v1), (2, .int v2), (4, .int v4)]) hx hb dX10_isWithin_53 rfl hl (by decide) rfl (fun ls hl => ?_)
          obtain ⟨x10, ex10⟩ : ∃ y : Int32, y = v4 + (1 : Int32) := ⟨_, rfl⟩
          have hw := hw x10 ex10
          refine lv_iinc (v := x10) (lv' := [(4, .int x10), (3, .int (1 : Int32)), (0, .ref h_p0), (1, .int v1), (2, .int v2)]) hx hb dX10_isWithin_54 hl (k := 4) rfl (by rw [ex10]; rfl) (by decide) rfl (fun ls hl => ?_)
          refine lv_goto (tgt := 5) hx hb dX10_isWithin_57 (by decide) ?_
          exact ih _ _ hw _ _ _ hP hD hS (lv_sub hl [2, 3, 4, 1, 0] rfl)
set_option maxHeartbeats 4000000 in
set_option maxRecDepth 100000 in
theorem c_X10_isWithin {l : Launch} {dC : Nat → ClassId} {dI : Nat → Nat → Nat} {sz : Nat} {cI cJ cZ : ClassId} {h_p0 : Nat} {ad_p0 : Nat → Nat} {p0_places : Int32} {p0_steps : Int32} {p0_pastFirst : Int32} {p0_past : Int32} {p0_goings : Int32} {p0_rowSize : Int32} {p0_ways : Int32} {p0_hasField : Int32} {p0_fieldSize : Int32} {p0_faultNow : Int32} {p0_hasTree : Int32} {p0_treeSize : Int32} {p0_weightCount : Int32} {p0_roundCount : Int32} {p0_setCount : Int32} {p0_nodes : Nat → Int32} {a1 : Int32} {a2 : Int32} {post : Int32 → Prop} (hw : w_X10_isWithin p0_places p0_nodes a1 a2 post) : Met l yX10_isWithin wsX10_isWithin ({ frames := 1, cells := 0, slots := 0, locals := 21 }) (va_Pc [.ref h_p0, .int a1, .int a2] (xPre (dC, dI) cI cJ cZ (wld_X10_isWithin cI cJ cZ h_p0 ad_p0 p0_places p0_steps p0_pastFirst p0_past p0_goings p0_rowSize p0_ways p0_hasField p0_fieldSize p0_faultNow p0_hasTree p0_treeSize p0_weightCount p0_roundCount p0_setCount p0_nodes) sz)) (q_X10_isWithin dC dI cI cJ cZ h_p0 ad_p0 p0_places p0_steps p0_pastFirst p0_past p0_goings p0_rowSize p0_ways p0_hasField p0_fieldSize p0_faultNow p0_hasTree p0_treeSize p0_weightCount p0_roundCount p0_setCount p0_nodes post (va_A (wld_X10_isWithin cI cJ cZ h_p0 ad_p0 p0_places p0_steps p0_pastFirst p0_past p0_goings p0_rowSize p0_ways p0_hasField p0_fieldSize p0_faultNow p0_hasTree p0_treeSize p0_weightCount p0_roundCount p0_setCount p0_nodes) sz)) 0 0 (va_A (wld_X10_isWithin cI cJ cZ h_p0 ad_p0 p0_places p0_steps p0_pastFirst p0_past p0_goings p0_rowSize p0_ways p0_hasField p0_fieldSize p0_faultNow p0_hasTree p0_treeSize p0_weightCount p0_roundCount p0_setCount p0_nodes) sz) := by
  refine x_met (cc := cX10_isWithin) (maxL := 5) (ret := (some .boolean)) (own := RX10) (Qc := fun A => (q_X10_isWithin dC dI cI cJ cZ h_p0 ad_p0 p0_places p0_steps p0_pastFirst p0_past p0_goings p0_rowSize p0_ways p0_hasField p0_fieldSize p0_faultNow p0_hasTree p0_treeSize p0_weightCount p0_roundCount p0_setCount p0_nodes post A)) (by decide) rfl rfl (Nat.le_of_ble_eq_true rfl) ?_
  intro p e s m args below meth c A ls E0 hP hD hS hl
  obtain ⟨hx, hb, hr, hml, hown, hts, hlocks, hK, hA, n1, n2⟩ := id E0
  have iX10 : ∀ w ∈ u_ws RX10 TX10 50, w ∈ wsX10_isWithin := fun w h => List.mem_cons_of_mem _ (List.mem_append_right _ h)
  have hS0 := hS
  have hl : lv_has ls 5 [(0, .ref h_p0), (1, .int a1), (2, .int a2)] := hl
  unfold w_X10_isWithin at hw
  obtain ⟨H, hH⟩ : ∃ H, H = s.heap := ⟨_, rfl⟩
  have hS : va_S A s.heap H [] := by rw [hH]; exact hS
  have hP : va_P (dC, dI) vwCl (wld_X10_isWithin cI cJ cZ h_p0 ad_p0 p0_places p0_steps p0_pastFirst p0_past p0_goings p0_rowSize p0_ways p0_hasField p0_fieldSize p0_faultNow p0_hasTree p0_treeSize p0_weightCount p0_roundCount p0_setCount p0_nodes) H := by rw [hH]; exact hP
  suffices hG : W p l e ({ frames := 1, cells := 0, slots := 0, locals := 21 }) s m args below meth c H [] 0 0 (MQ below (q_X10_isWithin dC dI cI cJ cZ h_p0 ad_p0 p0_places p0_steps p0_pastFirst p0_past p0_goings p0_rowSize p0_ways p0_hasField p0_fieldSize p0_faultNow p0_hasTree p0_treeSize p0_weightCount p0_roundCount p0_setCount p0_nodes post A) args s 0 0 A) (F0 m 0 ls []) by rw [hH] at hG; exact hG
  clear hH
  refine lv_iconst (v := 1) hx hb dX10_isWithin_0 (by decide) ?_
  refine lv_istore_n (lv' := [(3, .int (1 : Int32)), (0, .ref h_p0), (1, .int a1), (2, .int a2)]) hx hb dX10_isWithin_1 rfl hl (by decide) rfl (fun ls hl => ?_)
  refine lv_iconst (v := 0) hx hb dX10_isWithin_2 (by decide) ?_
  refine lv_istore (lv' := [(4, .int (0 : Int32)), (3, .int (1 : Int32)), (0, .ref h_p0), (1, .int a1), (2, .int a2)]) hx hb dX10_isWithin_3 hl (by decide) rfl (fun ls hl => ?_)
  obtain ⟨n11, hw⟩ := hw
  refine c_X10_isWithin_L5 (l := l)  E0 ?_ n11 _ _ hw _ _ _ hP hD hS (lv_sub hl [2, 3, 4, 1, 0] rfl)
  · intro v12 v13 H locs ls hw hP hD hS hl
    have hP : va_P (dC, dI) vwCl (wld_X10_isWithin cI cJ cZ h_p0 ad_p0 p0_places p0_steps p0_pastFirst p0_past p0_goings p0_rowSize p0_ways p0_hasField p0_fieldSize p0_faultNow p0_hasTree p0_treeSize p0_weightCount p0_roundCount p0_setCount p0_nodes) H := hP
    have hD : va_D A (wld_X10_isWithin cI cJ cZ h_p0 ad_p0 p0_places p0_steps p0_pastFirst p0_past p0_goings p0_rowSize p0_ways p0_hasField p0_fieldSize p0_faultNow p0_hasTree p0_treeSize p0_weightCount p0_roundCount p0_setCount p0_nodes) := hD
    refine lv_iload_n hx hb dX10_isWithin_60 rfl (lv_at hl 0 rfl) ?_
    have hv := hw.1
    have hw := hw.2
    exact x_zret (w1 := fun (u : Unit) => (wld_X10_isWithin cI cJ cZ h_p0 ad_p0 p0_places p0_steps p0_pastFirst p0_past p0_goings p0_rowSize p0_ways p0_hasField p0_fieldSize p0_faultNow p0_hasTree p0_treeSize p0_weightCount p0_roundCount p0_setCount p0_nodes)) hx hb hr hlocks hv () hw hP hD hS dX10_isWithin_61
abbrev wld_X10_grows (cI cJ cZ : ClassId) (h_p0 : Nat) (ad_p0 : Nat → Nat) (p0_places : Int32) (p0_steps : Int32) (p0_pastFirst : Int32) (p0_past : Int32) (p0_goings : Int32) (p0_rowSize : Int32) (p0_ways : Int32) (p0_hasField : Int32) (p0_fieldSize : Int32) (p0_faultNow : Int32) (p0_hasTree : Int32) (p0_treeSize : Int32) (p0_weightCount : Int32) (p0_roundCount : Int32) (p0_setCount : Int32) (p0_nodes : Nat → Int32) : va_W := [(h_p0, .inr (10, [.int p0_places, .int p0_steps, .ref (ad_p0 2), .ref (ad_p0 3), .ref (ad_p0 4), .ref (ad_p0 5), .ref (ad_p0 6), .ref (ad_p0 7), .ref (ad_p0 8), .ref (ad_p0 9), .ref (ad_p0 10), .ref (ad_p0 11), .ref (ad_p0 12), .ref (ad_p0 13), .ref (ad_p0 14), .int p0_pastFirst, .int p0_past, .int p0_goings, .int p0_rowSize, .ref (ad_p0 19), .ref (ad_p0 20), .int p0_ways, .ref (ad_p0 22), .ref (ad_p0 23), .int p0_hasField, .int p0_fieldSize, .ref (ad_p0 26), .ref (ad_p0 27), .ref (ad_p0 28), .ref (ad_p0 29), .ref (ad_p0 30), .ref (ad_p0 31), .ref (ad_p0 32), .int p0_faultNow, .int p0_hasTree, .int p0_treeSize, .ref (ad_p0 36), .ref (ad_p0 37), .ref (ad_p0 38), .ref (ad_p0 39), .ref (ad_p0 40), .ref (ad_p0 41), .ref (ad_p0 42), .int p0_weightCount, .ref (ad_p0 44), .int p0_roundCount, .ref (ad_p0 46), .int p0_setCount, .ref (ad_p0 48), .ref (ad_p0 49)])), ((ad_p0 36), .inl (cI, 32000, .inl p0_nodes))]
abbrev q_X10_grows (dC : Nat → ClassId) (dI : Nat → Nat → Nat) (cI cJ cZ : ClassId) (h_p0 : Nat) (ad_p0 : Nat → Nat) (p0_places : Int32) (p0_steps : Int32) (p0_pastFirst : Int32) (p0_past : Int32) (p0_goings : Int32) (p0_rowSize : Int32) (p0_ways : Int32) (p0_hasField : Int32) (p0_fieldSize : Int32) (p0_faultNow : Int32) (p0_hasTree : Int32) (p0_treeSize : Int32) (p0_weightCount : Int32) (p0_roundCount : Int32) (p0_setCount : Int32) (p0_nodes : Nat → Int32) (post : Int32 → (Nat → Int32) → Prop) (A : Nat → Prop) : Array Value → State → Outcome → State → Prop := va_Qi (fun r (u : (Nat → Int32)) => post r u) (fun (u : (Nat → Int32)) t => xPost (dC, dI) A (wld_X10_grows cI cJ cZ h_p0 ad_p0 p0_places p0_steps p0_pastFirst p0_past p0_goings p0_rowSize p0_ways p0_hasField p0_fieldSize p0_faultNow p0_hasTree p0_treeSize p0_weightCount p0_roundCount p0_setCount u) t) A
def w_X10_grows_L5b (v1 : Int32) (v2 : Int32) (p0_places : Int32) (post : Int32 → (Nat → Int32) → Prop) (K : (Int32) → (Int32) → (Nat → Int32) → Prop) (rec : (Int32) → (Int32) → (Nat → Int32) → Prop) (v3 : Int32) (v4 : Int32) (p0_nodes : Nat → Int32) : Prop :=
    (p0_places ≤ v4 →
      K v3 v4 p0_nodes) ∧
    (¬ p0_places ≤ v4 →
      w_X10_isWithin p0_places p0_nodes v2 v1 (fun r3 =>
      (r3 = 0 →
        K v3 v4 p0_nodes) ∧
      (¬ r3 = 0 →
        vp_in (((16 : Int32) * v1) + v4) 32000 ∧
        vp_in (((16 : Int32) * v2) + v4) 32000 ∧
        w_X10_isMore (p0_nodes (((16 : Int32) * v1) + v4).toNatClampNeg) (p0_nodes (((16 : Int32) * v2) + v4).toNatClampNeg) (fun r6 =>
        (r6 = 0 →
          ∀ x9 : Int32, x9 = v4 + (1 : Int32) →
          rec v3 x9 p0_nodes) ∧
        (¬ r6 = 0 →
          vp_in (((16 : Int32) * v1) + v4) 32000 ∧
          ∀ x10 : Int32, x10 = v4 + (1 : Int32) →
          rec (1 : Int32) x10 (upd p0_nodes (((16 : Int32) * v1) + v4).toNatClampNeg (-1 : Int32)))))))
def w_X10_grows_L5 (v1 : Int32) (v2 : Int32) (p0_places : Int32) (post : Int32 → (Nat → Int32) → Prop) (K : (Int32) → (Int32) → (Nat → Int32) → Prop) : Nat → (Int32) → (Int32) → (Nat → Int32) → Prop
  | 0, _, _, _ => False
  | n + 1, v3, v4, p0_nodes => w_X10_grows_L5b v1 v2 p0_places post K (w_X10_grows_L5 v1 v2 p0_places post K n) v3 v4 p0_nodes
def w_X10_grows (p0_places : Int32) (p0_nodes : Nat → Int32) (a1 : Int32) (a2 : Int32) (post : Int32 → (Nat → Int32) → Prop) : Prop :=
  ∃ n : Nat, w_X10_grows_L5 a1 a2 p0_places post (fun v12 v13 s14 =>
      v12 &&& 1 = v12 ∧
      (post v12 s14)) n (0 : Int32) (0 : Int32) p0_nodes
set_option maxHeartbeats 4000000 in
set_option maxRecDepth 100000 in
theorem c_X10_grows_L5 {p : Program} {l : Launch} {e : Env} {s : State} {m : MethodId} {args : Array Value} {below : List Frame} {meth : Method} {c : Code} {dC : Nat → ClassId} {dI : Nat → Nat → Nat} {A : Nat → Prop} {cI cJ cZ : ClassId} {h_p0 : Nat} {ad_p0 : Nat → Nat} {p0_places : Int32} {p0_steps : Int32} {p0_pastFirst : Int32} {p0_past : Int32} {p0_goings : Int32} {p0_rowSize : Int32} {p0_ways : Int32} {p0_hasField : Int32} {p0_fieldSize : Int32} {p0_faultNow : Int32} {p0_hasTree : Int32} {p0_treeSize : Int32} {p0_weightCount : Int32} {p0_roundCount : Int32} {p0_setCount : Int32} {v1 : Int32} {v2 : Int32} {z_p0_nodes : Nat → Int32} {post : Int32 → (Nat → Int32) → Prop} {K : (Int32) → (Int32) → (Nat → Int32) → Prop} (E0 : xEnv p s m args meth c cX10_grows (some .boolean) 5 RX10 wsX10_grows (dC, dI) cI cJ cZ A) (hk : ∀ (v3 : Int32) (v4 : Int32) (p0_nodes : Nat → Int32) (H : Heap) (locs : List Loc) (ls : Array Slot), K v3 v4 p0_nodes → va_P (dC, dI) vwCl (wld_X10_grows cI cJ cZ h_p0 ad_p0 p0_places p0_steps p0_pastFirst p0_past p0_goings p0_rowSize p0_ways p0_hasField p0_fieldSize p0_faultNow p0_hasTree p0_treeSize p0_weightCount p0_roundCount p0_setCount p0_nodes) H → va_D A (wld_X10_grows cI cJ cZ h_p0 ad_p0 p0_places p0_steps p0_pastFirst p0_past p0_goings p0_rowSize p0_ways p0_hasField p0_fieldSize p0_faultNow p0_hasTree p0_treeSize p0_weightCount p0_roundCount p0_setCount p0_nodes) → va_S A s.heap H locs → lv_has ls 5 [(3, .int v3)] → W p l e ({ frames := 2, cells := 0, slots := 0, locals := 45 }) s m args below meth c H locs 0 0 (MQ below (q_X10_grows dC dI cI cJ cZ h_p0 ad_p0 p0_places p0_steps p0_pastFirst p0_past p0_goings p0_rowSize p0_ways p0_hasField p0_fieldSize p0_faultNow p0_hasTree p0_treeSize p0_weightCount p0_roundCount p0_setCount z_p0_nodes post A) args s 0 0 A) (F0 m 74 ls [])) : ∀ (n : Nat) (v3 : Int32) (v4 : Int32) (p0_nodes : Nat → Int32), w_X10_grows_L5 v1 v2 p0_places post K n v3 v4 p0_nodes → ∀ (H : Heap) (locs : List Loc) (ls : Array Slot), va_P (dC, dI) vwCl (wld_X10_grows cI cJ cZ h_p0 ad_p0 p0_places p0_steps p0_pastFirst p0_past p0_goings p0_rowSize p0_ways p0_hasField p0_fieldSize p0_faultNow p0_hasTree p0_treeSize p0_weightCount p0_roundCount p0_setCount p0_nodes) H → va_D A (wld_X10_grows cI cJ cZ h_p0 ad_p0 p0_places p0_steps p0_pastFirst p0_past p0_goings p0_rowSize p0_ways p0_hasField p0_fieldSize p0_faultNow p0_hasTree p0_treeSize p0_weightCount p0_roundCount p0_setCount p0_nodes) → va_S A s.heap H locs → lv_has ls 5 [(0, .ref h_p0), (1, .int v1), (2, .int v2), (3, .int v3), (4, .int v4)] → W p l e ({ frames := 2, cells := 0, slots := 0, locals := 45 }) s m args below meth c H locs 0 0 (MQ below (q_X10_grows dC dI cI cJ cZ h_p0 ad_p0 p0_places p0_steps p0_pastFirst p0_past p0_goings p0_rowSize p0_ways p0_hasField p0_fieldSize p0_faultNow p0_hasTree p0_treeSize p0_weightCount p0_roundCount p0_setCount z_p0_nodes post A) args s 0 0 A) (F0 m 5 ls []) := by
  obtain ⟨hx, hb, hr, hml, hown, hts, hlocks, hK, hA, n1, n2⟩ := id E0
  have iX10 : ∀ w ∈ u_ws RX10 TX10 50, w ∈ wsX10_grows := fun w h => List.mem_cons_of_mem _ (List.mem_append_right _ h)
  intro n
  induction n with
  | zero => intro v3 v4 p0_nodes hw; exact hw.elim
  | succ n ih =>
    intro v3 v4 p0_nodes hw H locs ls hP hD hS hl
    have hw : w_X10_grows_L5b v1 v2 p0_places post K (w_X10_grows_L5 v1 v2 p0_places post K n) v3 v4 p0_nodes := hw
    unfold w_X10_grows_L5b at hw
    refine lv_iload hx hb dX10_grows_5 (lv_at hl 4 rfl) ?_
    refine lv_aload_n hx hb dX10_grows_7 rfl (lv_at hl 0 rfl) ?_
    refine va_get (D := (dC, dI)) (ci := 10) (v := .int p0_places) (C := RX10) (T := TX10) (N := 50) hx hb hts iX10 hown hK hP 0 rfl rfl 0 (by decide) (hts (.fieldLink RX10 127 "NetHouseModel" "places" "I") (by decide +kernel)) (fun _ h9 => h9) rfl dX10_grows_8 ?_
    refine lv_icmp_ge (tgt := 74) hx hb dX10_grows_11 (by decide) (fun c1 => ?_) (fun c2 => ?_)
    · have hw := hw.1 c1
      exact hk _ _ _ _ _ _ hw hP hD hS (lv_sub hl [3] rfl)
    · have hw := hw.2 c2
      refine lv_aload_n hx hb dX10_grows_14 rfl (lv_at hl 0 rfl) ?_
      refine lv_iload_n hx hb dX10_grows_15 rfl (lv_at hl 2 rfl) ?_
      refine lv_iload_n hx hb dX10_grows_16 rfl (lv_at hl 1 rfl) ?_
      obtain ⟨hPc, hDc⟩ := x_sub (wc := (wld_X10_isWithin cI cJ cZ h_p0 ad_p0 p0_places p0_steps p0_pastFirst p0_past p0_goings p0_rowSize p0_ways p0_hasField p0_fieldSize p0_faultNow p0_hasTree p0_treeSize p0_weightCount p0_roundCount p0_setCount p0_nodes)) hP hD [0, 1] (n := 2) rfl rfl (by decide +kernel)
      refine x_calli (ws' := fun (u : Unit) => (wld_X10_grows cI cJ cZ h_p0 ad_p0 p0_places p0_steps p0_pastFirst p0_past p0_goings p0_rowSize p0_ways p0_hasField p0_fieldSize p0_faultNow p0_hasTree p0_treeSize p0_weightCount p0_roundCount p0_setCount p0_nodes)) hP hD hS hA [0, 1] [] [0, 1] (n := 2) (k := 2) rfl (fun _ => rfl) rfl (by decide +kernel) (fun _ => rfl) (va_runV (As := [.int v2, .int v1]) (rest := []) ⟨hx, hb, hml, hown, hts⟩ (c_X10_isWithin (l := l) (dC := dC) (dI := dI) (cI := cI) (cJ := cJ) (cZ := cZ) (sz := H.size) (h_p0 := h_p0) (ad_p0 := ad_p0) (p0_places := p0_places) (p0_steps := p0_steps) (p0_pastFirst := p0_pastFirst) (p0_past := p0_past) (p0_goings := p0_goings) (p0_rowSize := p0_rowSize) (p0_ways := p0_ways) (p0_hasField := p0_hasField) (p0_fieldSize := p0_fieldSize) (p0_faultNow := p0_faultNow) (p0_hasTree := p0_hasTree) (p0_treeSize := p0_treeSize) (p0_weightCount := p0_weightCount) (p0_roundCount := p0_roundCount) (p0_setCount := p0_setCount) (p0_nodes := p0_nodes) hw) (cwV 2 hts gX10_grows_X10_isWithin rfl rfl rfl (by decide +kernel) ⟨Nat.le_of_ble_eq_true rfl, Nat.le_of_ble_eq_true rfl⟩) ⟨xPre_blind, va_recv hK hP (ci := 10) (q0 := 0) rfl rfl, xPre_at hK hPc hDc n1 n2⟩ rfl rfl hl.1 rfl (lv_room (Nat.le_of_ble_eq_true rfl)) dX10_grows_17 ⟨Nat.zero_le _, Nat.zero_le _⟩) (fun r3 u H locs hw hP hD hS => ?_)
      try dsimp only at hw
      have hP : va_P (dC, dI) vwCl (wld_X10_grows cI cJ cZ h_p0 ad_p0 p0_places p0_steps p0_pastFirst p0_past p0_goings p0_rowSize p0_ways p0_hasField p0_fieldSize p0_faultNow p0_hasTree p0_treeSize p0_weightCount p0_roundCount p0_setCount p0_nodes) H := hP
      have hD : va_D A (wld_X10_grows cI cJ cZ h_p0 ad_p0 p0_places p0_steps p0_pastFirst p0_past p0_goings p0_rowSize p0_ways p0_hasField p0_fieldSize p0_faultNow p0_hasTree p0_treeSize p0_weightCount p0_roundCount p0_setCount p0_nodes) := hD
      refine lv_if_eq (tgt := 74) hx hb dX10_grows_20 (by decide) (fun c4 => ?_) (fun c5 => ?_)
      · have hw := hw.1 c4
        exact hk _ _ _ _ _ _ hw hP hD hS (lv_sub hl [3] rfl)
      · have hw := hw.2 c5
        refine lv_aload_n hx hb dX10_grows_23 rfl (lv_at hl 0 rfl) ?_
        refine va_get (D := (dC, dI)) (ci := 10) (v := .ref (ad_p0 36)) (C := RX10) (T := TX10) (N := 50) hx hb hts iX10 hown hK hP 0 rfl rfl 36 (by decide) (hts (.fieldLink RX10 90 "NetHouseModel" "nodes" "[I") (by decide +kernel)) (fun _ h9 => h9) rfl dX10_grows_24 ?_
        refine lv_bipush (v := 16) hx hb dX10_grows_27 (by decide) ?_
        refine lv_iload_n hx hb dX10_grows_29 rfl (lv_at hl 1 rfl) ?_
        refine lv_imul hx hb dX10_grows_30 ?_
        refine lv_iload hx hb dX10_grows_31 (lv_at hl 4 rfl) ?_
        refine lv_iadd hx hb dX10_grows_33 ?_
        refine va_iald hx hb hK hP 1 0 rfl rfl hw.1 dX10_grows_34 ?_
        have hw := hw.2
        refine lv_aload_n hx hb dX10_grows_35 rfl (lv_at hl 0 rfl) ?_
        refine va_get (D := (dC, dI)) (ci := 10) (v := .ref (ad_p0 36)) (C := RX10) (T := TX10) (N := 50) hx hb hts iX10 hown hK hP 0 rfl rfl 36 (by decide) (hts (.fieldLink RX10 90 "NetHouseModel" "nodes" "[I") (by decide +kernel)) (fun _ h9 => h9) rfl dX10_grows_36 ?_
        refine lv_bipush (v := 16) hx hb dX10_grows_39 (by decide) ?_
        refine lv_iload_n hx hb dX10_grows_41 rfl (lv_at hl 2 rfl) ?_
        refine lv_imul hx hb dX10_grows_42 ?_
        refine lv_iload hx hb dX10_grows_43 (lv_at hl 4 rfl) ?_
        refine lv_iadd hx hb dX10_grows_45 ?_
        refine va_iald hx hb hK hP 1 0 rfl rfl hw.1 dX10_grows_46 ?_
        have hw := hw.2
        obtain ⟨hPc, hDc⟩ := x_sub (wc := (wld_X10_isMore cI cJ cZ )) hP hD [] (n := 2) rfl rfl (by decide +kernel)
        refine x_calli (ws' := fun (u : Unit) => (wld_X10_grows cI cJ cZ h_p0 ad_p0 p0_places p0_steps p0_pastFirst p0_past p0_goings p0_rowSize p0_ways p0_hasField p0_fieldSize p0_faultNow p0_hasTree p0_treeSize p0_weightCount p0_roundCount p0_setCount p0_nodes)) hP hD hS hA [] [0, 1] [0, 1] (n := 2) (k := 0) rfl (fun _ => rfl) rfl (by decide +kernel) (fun _ => rfl) (va_runS (As := [.int (p0_nodes (((16 : Int32) * v1) + v4).toNatClampNeg), .int (p0_nodes (((16 : Int32) * v2) + v4).toNatClampNeg)]) (rest := []) ⟨hx, hb, hml, hown, hts⟩ (c_X10_isMore (l := l) (dC := dC) (dI := dI) (cI := cI) (cJ := cJ) (cZ := cZ) (sz := H.size) hw) (va_cwS 2 hts gX10_grows_X10_isMore rfl rfl rfl (by decide +kernel) ⟨Nat.le_of_ble_eq_true rfl, Nat.le_of_ble_eq_true rfl⟩) ⟨xPre_blind, xPre_at hK hPc hDc n1 n2⟩ rfl rfl hl.1 rfl (lv_room (Nat.le_of_ble_eq_true rfl)) dX10_grows_47 ⟨Nat.zero_le _, Nat.zero_le _⟩) (fun r6 u H locs hw hP hD hS => ?_)
        try dsimp only at hw
        have hP : va_P (dC, dI) vwCl (wld_X10_grows cI cJ cZ h_p0 ad_p0 p0_places p0_steps p0_pastFirst p0_past p0_goings p0_rowSize p0_ways p0_hasField p0_fieldSize p0_faultNow p0_hasTree p0_treeSize p0_weightCount p0_roundCount p0_setCount p0_nodes) H := hP
        have hD : va_D A (wld_X10_grows cI cJ cZ h_p0 ad_p0 p0_places p0_steps p0_pastFirst p0_past p0_goings p0_rowSize p0_ways p0_hasField p0_fieldSize p0_faultNow p0_hasTree p0_treeSize p0_weightCount p0_roundCount p0_setCount p0_nodes) := hD
        refine lv_if_eq (tgt := 68) hx hb dX10_grows_50 (by decide) (fun c7 => ?_) (fun c8 => ?_)
        · have hw := hw.1 c7
          obtain ⟨x9, ex9⟩ : ∃ y : Int32, y = v4 + (1 : Int32) := ⟨_, rfl⟩
          have hw := hw x9 ex9
          refine lv_iinc (v := x9) (lv' := [(4, .int x9), (0, .ref h_p0), (1, .int v1), (2, .int v2), (3, .int v3)]) hx hb dX10_grows_68 hl (k := 4) rfl (by rw [ex9]; rfl) (by decide) rfl (fun ls hl => ?_)
          refine lv_goto (tgt := 5) hx hb dX10_grows_71 (by decide) ?_
          exact ih _ _ _ hw _ _ _ hP hD hS (lv_sub hl [1, 2, 3, 4, 0] rfl)
        · have hw := hw.2 c8
          refine lv_aload_n hx hb dX10_grows_53 rfl (lv_at hl 0 rfl) ?_
          refine va_get (D := (dC, dI)) (ci := 10) (v := .ref (ad_p0 36)) (C := RX10) (T := TX10) (N := 50) hx hb hts iX10 hown hK hP 0 rfl rfl 36 (by decide) (hts (.fieldLink RX10 90 "NetHouseModel" "nodes" "[I") (by decide +kernel)) (fun _ h9 => h9) rfl dX10_grows_54 ?_
          refine lv_bipush (v := 16) hx hb dX10_grows_57 (by decide) ?_
          refine lv_iload_n hx hb dX10_grows_59 rfl (lv_at hl 1 rfl) ?_
          refine lv_imul hx hb dX10_grows_60 ?_
          refine lv_iload hx hb dX10_grows_61 (lv_at hl 4 rfl) ?_
          refine lv_iadd hx hb dX10_grows_63 ?_
          refine lv_iconst (v := -1) hx hb dX10_grows_64 (by decide) ?_
          refine va_iast hx hb hK hP hD hS 1 0 rfl rfl hw.1 dX10_grows_65 (fun H locs hP hD hS => ?_)
          have hw := hw.2
          have hP : va_P (dC, dI) vwCl (wld_X10_grows cI cJ cZ h_p0 ad_p0 p0_places p0_steps p0_pastFirst p0_past p0_goings p0_rowSize p0_ways p0_hasField p0_fieldSize p0_faultNow p0_hasTree p0_treeSize p0_weightCount p0_roundCount p0_setCount (upd p0_nodes (((16 : Int32) * v1) + v4).toNatClampNeg (-1 : Int32))) H := hP
          have hD : va_D A (wld_X10_grows cI cJ cZ h_p0 ad_p0 p0_places p0_steps p0_pastFirst p0_past p0_goings p0_rowSize p0_ways p0_hasField p0_fieldSize p0_faultNow p0_hasTree p0_treeSize p0_weightCount p0_roundCount p0_setCount (upd p0_nodes (((16 : Int32) * v1) + v4).toNatClampNeg (-1 : Int32))) := hD
          refine lv_iconst (v := 1) hx hb dX10_grows_66 (by decide) ?_
          refine lv_istore_n (lv' := [(3, .int (1 : Int32)), (0, .ref h_p0), (1, .int v1), (2, .int v2), (4, .int v4)]) hx hb dX10_grows_67 rfl hl (by decide) rfl (fun ls hl => ?_)
          obtain ⟨x10, ex10⟩ : ∃ y : Int32, y = v4 + (1 : Int32) := ⟨_, rfl⟩
          have hw := hw x10 ex10
          refine lv_iinc (v := x10) (lv' := [(4, .int x10), (3, .int (1 : Int32)), (0, .ref h_p0), (1, .int v1), (2, .int v2)]) hx hb dX10_grows_68 hl (k := 4) rfl (by rw [ex10]; rfl) (by decide) rfl (fun ls hl => ?_)
          refine lv_goto (tgt := 5) hx hb dX10_grows_71 (by decide) ?_
          exact ih _ _ _ hw _ _ _ hP hD hS (lv_sub hl [2, 3, 4, 1, 0] rfl)
set_option maxHeartbeats 4000000 in
set_option maxRecDepth 100000 in
theorem c_X10_grows {l : Launch} {dC : Nat → ClassId} {dI : Nat → Nat → Nat} {sz : Nat} {cI cJ cZ : ClassId} {h_p0 : Nat} {ad_p0 : Nat → Nat} {p0_places : Int32} {p0_steps : Int32} {p0_pastFirst : Int32} {p0_past : Int32} {p0_goings : Int32} {p0_rowSize : Int32} {p0_ways : Int32} {p0_hasField : Int32} {p0_fieldSize : Int32} {p0_faultNow : Int32} {p0_hasTree : Int32} {p0_treeSize : Int32} {p0_weightCount : Int32} {p0_roundCount : Int32} {p0_setCount : Int32} {p0_nodes : Nat → Int32} {a1 : Int32} {a2 : Int32} {post : Int32 → (Nat → Int32) → Prop} (hw : w_X10_grows p0_places p0_nodes a1 a2 post) : Met l yX10_grows wsX10_grows ({ frames := 2, cells := 0, slots := 0, locals := 45 }) (va_Pc [.ref h_p0, .int a1, .int a2] (xPre (dC, dI) cI cJ cZ (wld_X10_grows cI cJ cZ h_p0 ad_p0 p0_places p0_steps p0_pastFirst p0_past p0_goings p0_rowSize p0_ways p0_hasField p0_fieldSize p0_faultNow p0_hasTree p0_treeSize p0_weightCount p0_roundCount p0_setCount p0_nodes) sz)) (q_X10_grows dC dI cI cJ cZ h_p0 ad_p0 p0_places p0_steps p0_pastFirst p0_past p0_goings p0_rowSize p0_ways p0_hasField p0_fieldSize p0_faultNow p0_hasTree p0_treeSize p0_weightCount p0_roundCount p0_setCount p0_nodes post (va_A (wld_X10_grows cI cJ cZ h_p0 ad_p0 p0_places p0_steps p0_pastFirst p0_past p0_goings p0_rowSize p0_ways p0_hasField p0_fieldSize p0_faultNow p0_hasTree p0_treeSize p0_weightCount p0_roundCount p0_setCount p0_nodes) sz)) 0 0 (va_A (wld_X10_grows cI cJ cZ h_p0 ad_p0 p0_places p0_steps p0_pastFirst p0_past p0_goings p0_rowSize p0_ways p0_hasField p0_fieldSize p0_faultNow p0_hasTree p0_treeSize p0_weightCount p0_roundCount p0_setCount p0_nodes) sz) := by
  refine x_met (cc := cX10_grows) (maxL := 5) (ret := (some .boolean)) (own := RX10) (Qc := fun A => (q_X10_grows dC dI cI cJ cZ h_p0 ad_p0 p0_places p0_steps p0_pastFirst p0_past p0_goings p0_rowSize p0_ways p0_hasField p0_fieldSize p0_faultNow p0_hasTree p0_treeSize p0_weightCount p0_roundCount p0_setCount p0_nodes post A)) (by decide) rfl rfl (Nat.le_of_ble_eq_true rfl) ?_
  intro p e s m args below meth c A ls E0 hP hD hS hl
  obtain ⟨hx, hb, hr, hml, hown, hts, hlocks, hK, hA, n1, n2⟩ := id E0
  have iX10 : ∀ w ∈ u_ws RX10 TX10 50, w ∈ wsX10_grows := fun w h => List.mem_cons_of_mem _ (List.mem_append_right _ h)
  have hS0 := hS
  have hl : lv_has ls 5 [(0, .ref h_p0), (1, .int a1), (2, .int a2)] := hl
  unfold w_X10_grows at hw
  obtain ⟨H, hH⟩ : ∃ H, H = s.heap := ⟨_, rfl⟩
  have hS : va_S A s.heap H [] := by rw [hH]; exact hS
  have hP : va_P (dC, dI) vwCl (wld_X10_grows cI cJ cZ h_p0 ad_p0 p0_places p0_steps p0_pastFirst p0_past p0_goings p0_rowSize p0_ways p0_hasField p0_fieldSize p0_faultNow p0_hasTree p0_treeSize p0_weightCount p0_roundCount p0_setCount p0_nodes) H := by rw [hH]; exact hP
  suffices hG : W p l e ({ frames := 2, cells := 0, slots := 0, locals := 45 }) s m args below meth c H [] 0 0 (MQ below (q_X10_grows dC dI cI cJ cZ h_p0 ad_p0 p0_places p0_steps p0_pastFirst p0_past p0_goings p0_rowSize p0_ways p0_hasField p0_fieldSize p0_faultNow p0_hasTree p0_treeSize p0_weightCount p0_roundCount p0_setCount p0_nodes post A) args s 0 0 A) (F0 m 0 ls []) by rw [hH] at hG; exact hG
  clear hH
  refine lv_iconst (v := 0) hx hb dX10_grows_0 (by decide) ?_
  refine lv_istore_n (lv' := [(3, .int (0 : Int32)), (0, .ref h_p0), (1, .int a1), (2, .int a2)]) hx hb dX10_grows_1 rfl hl (by decide) rfl (fun ls hl => ?_)
  refine lv_iconst (v := 0) hx hb dX10_grows_2 (by decide) ?_
  refine lv_istore (lv' := [(4, .int (0 : Int32)), (3, .int (0 : Int32)), (0, .ref h_p0), (1, .int a1), (2, .int a2)]) hx hb dX10_grows_3 hl (by decide) rfl (fun ls hl => ?_)
  obtain ⟨n11, hw⟩ := hw
  refine c_X10_grows_L5 (l := l) (z_p0_nodes := p0_nodes) E0 ?_ n11 _ _ _ hw _ _ _ hP hD hS (lv_sub hl [2, 3, 4, 1, 0] rfl)
  · intro v12 v13 s14 H locs ls hw hP hD hS hl
    have hP : va_P (dC, dI) vwCl (wld_X10_grows cI cJ cZ h_p0 ad_p0 p0_places p0_steps p0_pastFirst p0_past p0_goings p0_rowSize p0_ways p0_hasField p0_fieldSize p0_faultNow p0_hasTree p0_treeSize p0_weightCount p0_roundCount p0_setCount s14) H := hP
    have hD : va_D A (wld_X10_grows cI cJ cZ h_p0 ad_p0 p0_places p0_steps p0_pastFirst p0_past p0_goings p0_rowSize p0_ways p0_hasField p0_fieldSize p0_faultNow p0_hasTree p0_treeSize p0_weightCount p0_roundCount p0_setCount s14) := hD
    refine lv_iload_n hx hb dX10_grows_74 rfl (lv_at hl 0 rfl) ?_
    have hv := hw.1
    have hw := hw.2
    exact x_zret (w1 := fun (u : (Nat → Int32)) => (wld_X10_grows cI cJ cZ h_p0 ad_p0 p0_places p0_steps p0_pastFirst p0_past p0_goings p0_rowSize p0_ways p0_hasField p0_fieldSize p0_faultNow p0_hasTree p0_treeSize p0_weightCount p0_roundCount p0_setCount u)) hx hb hr hlocks hv (s14) hw hP hD hS dX10_grows_75
abbrev wld_X10_addNode (cI cJ cZ : ClassId) (h_p0 : Nat) (ad_p0 : Nat → Nat) (p0_places : Int32) (p0_steps : Int32) (p0_pastFirst : Int32) (p0_past : Int32) (p0_goings : Int32) (p0_rowSize : Int32) (p0_ways : Int32) (p0_hasField : Int32) (p0_fieldSize : Int32) (p0_faultNow : Int32) (p0_hasTree : Int32) (p0_treeSize : Int32) (p0_weightCount : Int32) (p0_roundCount : Int32) (p0_setCount : Int32) (p0_aboveOf : Nat → Int32) (p0_nodes : Nat → Int32) (p0_puts : Nat → Int32) (p0_stepOf : Nat → Int32) (p0_takes : Nat → Int32) : va_W := [(h_p0, .inr (10, [.int p0_places, .int p0_steps, .ref (ad_p0 2), .ref (ad_p0 3), .ref (ad_p0 4), .ref (ad_p0 5), .ref (ad_p0 6), .ref (ad_p0 7), .ref (ad_p0 8), .ref (ad_p0 9), .ref (ad_p0 10), .ref (ad_p0 11), .ref (ad_p0 12), .ref (ad_p0 13), .ref (ad_p0 14), .int p0_pastFirst, .int p0_past, .int p0_goings, .int p0_rowSize, .ref (ad_p0 19), .ref (ad_p0 20), .int p0_ways, .ref (ad_p0 22), .ref (ad_p0 23), .int p0_hasField, .int p0_fieldSize, .ref (ad_p0 26), .ref (ad_p0 27), .ref (ad_p0 28), .ref (ad_p0 29), .ref (ad_p0 30), .ref (ad_p0 31), .ref (ad_p0 32), .int p0_faultNow, .int p0_hasTree, .int p0_treeSize, .ref (ad_p0 36), .ref (ad_p0 37), .ref (ad_p0 38), .ref (ad_p0 39), .ref (ad_p0 40), .ref (ad_p0 41), .ref (ad_p0 42), .int p0_weightCount, .ref (ad_p0 44), .int p0_roundCount, .ref (ad_p0 46), .int p0_setCount, .ref (ad_p0 48), .ref (ad_p0 49)])), ((ad_p0 37), .inl (cI, 2000, .inl p0_aboveOf)), ((ad_p0 36), .inl (cI, 32000, .inl p0_nodes)), ((ad_p0 5), .inl (cI, 256, .inl p0_puts)), ((ad_p0 38), .inl (cI, 2000, .inl p0_stepOf)), ((ad_p0 4), .inl (cI, 256, .inl p0_takes))]
abbrev q_X10_addNode (dC : Nat → ClassId) (dI : Nat → Nat → Nat) (cI cJ cZ : ClassId) (h_p0 : Nat) (ad_p0 : Nat → Nat) (p0_places : Int32) (p0_steps : Int32) (p0_pastFirst : Int32) (p0_past : Int32) (p0_goings : Int32) (p0_rowSize : Int32) (p0_ways : Int32) (p0_hasField : Int32) (p0_fieldSize : Int32) (p0_faultNow : Int32) (p0_hasTree : Int32) (p0_treeSize : Int32) (p0_weightCount : Int32) (p0_roundCount : Int32) (p0_setCount : Int32) (p0_aboveOf : Nat → Int32) (p0_nodes : Nat → Int32) (p0_puts : Nat → Int32) (p0_stepOf : Nat → Int32) (p0_takes : Nat → Int32) (post : (Int32) → (Nat → Int32) → (Nat → Int32) → (Nat → Int32) → Prop) (A : Nat → Prop) : Array Value → State → Outcome → State → Prop := va_Qv (fun (u : (Int32) × (Nat → Int32) × (Nat → Int32) × (Nat → Int32)) => post (u.1) (u.2.1) (u.2.2.1) (u.2.2.2)) (fun (u : (Int32) × (Nat → Int32) × (Nat → Int32) × (Nat → Int32)) t => xPost (dC, dI) A (wld_X10_addNode cI cJ cZ h_p0 ad_p0 p0_places p0_steps p0_pastFirst p0_past p0_goings p0_rowSize p0_ways p0_hasField p0_fieldSize p0_faultNow p0_hasTree (u.1) p0_weightCount p0_roundCount p0_setCount (u.2.1) (u.2.2.1) p0_puts (u.2.2.2) p0_takes) t) A
def w_X10_addNode_L8b (v1 : Int32) (v2 : Int32) (v3 : Int32) (p0_places : Int32) (p0_treeSize : Int32) (p0_aboveOf : Nat → Int32) (p0_puts : Nat → Int32) (p0_stepOf : Nat → Int32) (p0_takes : Nat → Int32) (post : (Int32) → (Nat → Int32) → (Nat → Int32) → (Nat → Int32) → Prop) (K : (Int32) → (Nat → Int32) → Prop) (rec : (Int32) → (Nat → Int32) → Prop) (v4 : Int32) (p0_nodes : Nat → Int32) : Prop :=
    (p0_places ≤ v4 →
      K v4 p0_nodes) ∧
    (¬ p0_places ≤ v4 →
      vp_in (((16 : Int32) * v1) + v4) 32000 ∧
      ∀ x3 : Int32, x3 = (p0_nodes (((16 : Int32) * v1) + v4).toNatClampNeg) →
      (0 ≤ x3 →
        vp_in (((16 : Int32) * v2) + v4) 256 ∧
        vp_in (((16 : Int32) * v2) + v4) 256 ∧
        vp_in (((16 : Int32) * v3) + v4) 32000 ∧
        ∀ x6 : Int32, x6 = v4 + (1 : Int32) →
        rec x6 (upd p0_nodes (((16 : Int32) * v3) + v4).toNatClampNeg ((x3 + (p0_puts (((16 : Int32) * v2) + v4).toNatClampNeg)) - (p0_takes (((16 : Int32) * v2) + v4).toNatClampNeg)))) ∧
      (¬ 0 ≤ x3 →
        vp_in (((16 : Int32) * v3) + v4) 32000 ∧
        ∀ x7 : Int32, x7 = v4 + (1 : Int32) →
        rec x7 (upd p0_nodes (((16 : Int32) * v3) + v4).toNatClampNeg (-1 : Int32))))
def w_X10_addNode_L8 (v1 : Int32) (v2 : Int32) (v3 : Int32) (p0_places : Int32) (p0_treeSize : Int32) (p0_aboveOf : Nat → Int32) (p0_puts : Nat → Int32) (p0_stepOf : Nat → Int32) (p0_takes : Nat → Int32) (post : (Int32) → (Nat → Int32) → (Nat → Int32) → (Nat → Int32) → Prop) (K : (Int32) → (Nat → Int32) → Prop) : Nat → (Int32) → (Nat → Int32) → Prop
  | 0, _, _ => False
  | n + 1, v4, p0_nodes => w_X10_addNode_L8b v1 v2 v3 p0_places p0_treeSize p0_aboveOf p0_puts p0_stepOf p0_takes post K (w_X10_addNode_L8 v1 v2 v3 p0_places p0_treeSize p0_aboveOf p0_puts p0_stepOf p0_takes post K n) v4 p0_nodes
def w_X10_addNode_L113b (v3 : Int32) (p0_places : Int32) (p0_treeSize : Int32) (p0_aboveOf : Nat → Int32) (p0_puts : Nat → Int32) (p0_stepOf : Nat → Int32) (p0_takes : Nat → Int32) (post : (Int32) → (Nat → Int32) → (Nat → Int32) → (Nat → Int32) → Prop) (K : (Int32) → (Nat → Int32) → Prop) (rec : (Int32) → (Nat → Int32) → Prop) (v4 : Int32) (p0_nodes : Nat → Int32) : Prop :=
    (v4 = (-2000000005 : Int32) →
      K v4 p0_nodes) ∧
    (¬ v4 = (-2000000005 : Int32) →
      w_X10_grows p0_places p0_nodes v3 v4 (fun r14 y15 =>
      vp_in v4 2000 ∧
      ∀ x16 : Int32, x16 = (p0_aboveOf v4.toNatClampNeg) →
      rec x16 y15))
def w_X10_addNode_L113 (v3 : Int32) (p0_places : Int32) (p0_treeSize : Int32) (p0_aboveOf : Nat → Int32) (p0_puts : Nat → Int32) (p0_stepOf : Nat → Int32) (p0_takes : Nat → Int32) (post : (Int32) → (Nat → Int32) → (Nat → Int32) → (Nat → Int32) → Prop) (K : (Int32) → (Nat → Int32) → Prop) : Nat → (Int32) → (Nat → Int32) → Prop
  | 0, _, _ => False
  | n + 1, v4, p0_nodes => w_X10_addNode_L113b v3 p0_places p0_treeSize p0_aboveOf p0_puts p0_stepOf p0_takes post K (w_X10_addNode_L113 v3 p0_places p0_treeSize p0_aboveOf p0_puts p0_stepOf p0_takes post K n) v4 p0_nodes
def w_X10_addNode (p0_places : Int32) (p0_treeSize : Int32) (p0_aboveOf : Nat → Int32) (p0_nodes : Nat → Int32) (p0_puts : Nat → Int32) (p0_stepOf : Nat → Int32) (p0_takes : Nat → Int32) (a1 : Int32) (a2 : Int32) (post : (Int32) → (Nat → Int32) → (Nat → Int32) → (Nat → Int32) → Prop) : Prop :=
  ∃ n : Nat, w_X10_addNode_L8 a1 a2 p0_treeSize p0_places p0_treeSize p0_aboveOf p0_puts p0_stepOf p0_takes post (fun v9 s10 =>
      vp_in p0_treeSize 2000 ∧
      vp_in p0_treeSize 2000 ∧
      ∀ x11 : Int32, x11 = (p0_treeSize + (1 : Int32)) →
      ∃ n : Nat, w_X10_addNode_L113 p0_treeSize p0_places x11 (upd p0_aboveOf p0_treeSize.toNatClampNeg a1) p0_puts (upd p0_stepOf p0_treeSize.toNatClampNeg a2) p0_takes post (fun v18 s19 =>
          (post x11 (upd p0_aboveOf p0_treeSize.toNatClampNeg a1) s19 (upd p0_stepOf p0_treeSize.toNatClampNeg a2))) n a1 s10) n (0 : Int32) p0_nodes
set_option maxHeartbeats 4000000 in
set_option maxRecDepth 100000 in
theorem c_X10_addNode_L8 {p : Program} {l : Launch} {e : Env} {s : State} {m : MethodId} {args : Array Value} {below : List Frame} {meth : Method} {c : Code} {dC : Nat → ClassId} {dI : Nat → Nat → Nat} {A : Nat → Prop} {cI cJ cZ : ClassId} {h_p0 : Nat} {ad_p0 : Nat → Nat} {p0_places : Int32} {p0_steps : Int32} {p0_pastFirst : Int32} {p0_past : Int32} {p0_goings : Int32} {p0_rowSize : Int32} {p0_ways : Int32} {p0_hasField : Int32} {p0_fieldSize : Int32} {p0_faultNow : Int32} {p0_hasTree : Int32} {p0_treeSize : Int32} {p0_weightCount : Int32} {p0_roundCount : Int32} {p0_setCount : Int32} {p0_aboveOf : Nat → Int32} {p0_puts : Nat → Int32} {p0_stepOf : Nat → Int32} {p0_takes : Nat → Int32} {v1 : Int32} {v2 : Int32} {v3 : Int32} {z_p0_nodes : Nat → Int32} {post : (Int32) → (Nat → Int32) → (Nat → Int32) → (Nat → Int32) → Prop} {K : (Int32) → (Nat → Int32) → Prop} (E0 : xEnv p s m args meth c cX10_addNode none 6 RX10 wsX10_addNode (dC, dI) cI cJ cZ A) (hk : ∀ (v4 : Int32) (p0_nodes : Nat → Int32) (H : Heap) (locs : List Loc) (ls : Array Slot), K v4 p0_nodes → va_P (dC, dI) vwCl (wld_X10_addNode cI cJ cZ h_p0 ad_p0 p0_places p0_steps p0_pastFirst p0_past p0_goings p0_rowSize p0_ways p0_hasField p0_fieldSize p0_faultNow p0_hasTree p0_treeSize p0_weightCount p0_roundCount p0_setCount p0_aboveOf p0_nodes p0_puts p0_stepOf p0_takes) H → va_D A (wld_X10_addNode cI cJ cZ h_p0 ad_p0 p0_places p0_steps p0_pastFirst p0_past p0_goings p0_rowSize p0_ways p0_hasField p0_fieldSize p0_faultNow p0_hasTree p0_treeSize p0_weightCount p0_roundCount p0_setCount p0_aboveOf p0_nodes p0_puts p0_stepOf p0_takes) → va_S A s.heap H locs → lv_has ls 6 [(0, .ref h_p0), (1, .int v1), (2, .int v2), (3, .int v3)] → W p l e ({ frames := 3, cells := 0, slots := 0, locals := 69 }) s m args below meth c H locs 0 0 (MQ below (q_X10_addNode dC dI cI cJ cZ h_p0 ad_p0 p0_places p0_steps p0_pastFirst p0_past p0_goings p0_rowSize p0_ways p0_hasField p0_fieldSize p0_faultNow p0_hasTree p0_treeSize p0_weightCount p0_roundCount p0_setCount p0_aboveOf z_p0_nodes p0_puts p0_stepOf p0_takes post A) args s 0 0 A) (F0 m 86 ls [])) : ∀ (n : Nat) (v4 : Int32) (p0_nodes : Nat → Int32), w_X10_addNode_L8 v1 v2 v3 p0_places p0_treeSize p0_aboveOf p0_puts p0_stepOf p0_takes post K n v4 p0_nodes → ∀ (H : Heap) (locs : List Loc) (ls : Array Slot), va_P (dC, dI) vwCl (wld_X10_addNode cI cJ cZ h_p0 ad_p0 p0_places p0_steps p0_pastFirst p0_past p0_goings p0_rowSize p0_ways p0_hasField p0_fieldSize p0_faultNow p0_hasTree p0_treeSize p0_weightCount p0_roundCount p0_setCount p0_aboveOf p0_nodes p0_puts p0_stepOf p0_takes) H → va_D A (wld_X10_addNode cI cJ cZ h_p0 ad_p0 p0_places p0_steps p0_pastFirst p0_past p0_goings p0_rowSize p0_ways p0_hasField p0_fieldSize p0_faultNow p0_hasTree p0_treeSize p0_weightCount p0_roundCount p0_setCount p0_aboveOf p0_nodes p0_puts p0_stepOf p0_takes) → va_S A s.heap H locs → lv_has ls 6 [(0, .ref h_p0), (1, .int v1), (2, .int v2), (3, .int v3), (4, .int v4)] → W p l e ({ frames := 3, cells := 0, slots := 0, locals := 69 }) s m args below meth c H locs 0 0 (MQ below (q_X10_addNode dC dI cI cJ cZ h_p0 ad_p0 p0_places p0_steps p0_pastFirst p0_past p0_goings p0_rowSize p0_ways p0_hasField p0_fieldSize p0_faultNow p0_hasTree p0_treeSize p0_weightCount p0_roundCount p0_setCount p0_aboveOf z_p0_nodes p0_puts p0_stepOf p0_takes post A) args s 0 0 A) (F0 m 8 ls []) := by
  obtain ⟨hx, hb, hr, hml, hown, hts, hlocks, hK, hA, n1, n2⟩ := id E0
  have iX10 : ∀ w ∈ u_ws RX10 TX10 50, w ∈ wsX10_addNode := fun w h => List.mem_cons_of_mem _ (List.mem_append_right _ h)
  intro n
  induction n with
  | zero => intro v4 p0_nodes hw; exact hw.elim
  | succ n ih =>
    intro v4 p0_nodes hw H locs ls hP hD hS hl
    have hw : w_X10_addNode_L8b v1 v2 v3 p0_places p0_treeSize p0_aboveOf p0_puts p0_stepOf p0_takes post K (w_X10_addNode_L8 v1 v2 v3 p0_places p0_treeSize p0_aboveOf p0_puts p0_stepOf p0_takes post K n) v4 p0_nodes := hw
    unfold w_X10_addNode_L8b at hw
    refine lv_iload hx hb dX10_addNode_8 (lv_at hl 4 rfl) ?_
    refine lv_aload_n hx hb dX10_addNode_10 rfl (lv_at hl 0 rfl) ?_
    refine va_get (D := (dC, dI)) (ci := 10) (v := .int p0_places) (C := RX10) (T := TX10) (N := 50) hx hb hts iX10 hown hK hP 0 rfl rfl 0 (by decide) (hts (.fieldLink RX10 127 "NetHouseModel" "places" "I") (by decide +kernel)) (fun _ h9 => h9) rfl dX10_addNode_11 ?_
    refine lv_icmp_ge (tgt := 86) hx hb dX10_addNode_14 (by decide) (fun c1 => ?_) (fun c2 => ?_)
    · have hw := hw.1 c1
      exact hk _ _ _ _ _ hw hP hD hS (lv_sub hl [0, 1, 2, 3] rfl)
    · have hw := hw.2 c2
      refine lv_aload_n hx hb dX10_addNode_17 rfl (lv_at hl 0 rfl) ?_
      refine va_get (D := (dC, dI)) (ci := 10) (v := .ref (ad_p0 36)) (C := RX10) (T := TX10) (N := 50) hx hb hts iX10 hown hK hP 0 rfl rfl 36 (by decide) (hts (.fieldLink RX10 90 "NetHouseModel" "nodes" "[I") (by decide +kernel)) (fun _ h9 => h9) rfl dX10_addNode_18 ?_
      refine lv_bipush (v := 16) hx hb dX10_addNode_21 (by decide) ?_
      refine lv_iload_n hx hb dX10_addNode_23 rfl (lv_at hl 1 rfl) ?_
      refine lv_imul hx hb dX10_addNode_24 ?_
      refine lv_iload hx hb dX10_addNode_25 (lv_at hl 4 rfl) ?_
      refine lv_iadd hx hb dX10_addNode_27 ?_
      refine va_iald hx hb hK hP 2 0 rfl rfl hw.1 dX10_addNode_28 ?_
      have hw := hw.2
      refine lv_topi (fun x3 ex3 => ?_)
      have hw := hw x3 ex3
      refine lv_istore (lv' := [(5, .int x3), (0, .ref h_p0), (1, .int v1), (2, .int v2), (3, .int v3), (4, .int v4)]) hx hb dX10_addNode_29 hl (by decide) rfl (fun ls hl => ?_)
      refine lv_aload_n hx hb dX10_addNode_31 rfl (lv_at hl 1 rfl) ?_
      refine va_get (D := (dC, dI)) (ci := 10) (v := .ref (ad_p0 36)) (C := RX10) (T := TX10) (N := 50) hx hb hts iX10 hown hK hP 0 rfl rfl 36 (by decide) (hts (.fieldLink RX10 90 "NetHouseModel" "nodes" "[I") (by decide +kernel)) (fun _ h9 => h9) rfl dX10_addNode_32 ?_
      refine lv_bipush (v := 16) hx hb dX10_addNode_35 (by decide) ?_
      refine lv_iload_n hx hb dX10_addNode_37 rfl (lv_at hl 4 rfl) ?_
      refine lv_imul hx hb dX10_addNode_38 ?_
      refine lv_iload hx hb dX10_addNode_39 (lv_at hl 5 rfl) ?_
      refine lv_iadd hx hb dX10_addNode_41 ?_
      refine lv_iload hx hb dX10_addNode_42 (lv_at hl 0 rfl) ?_
      refine lv_if_ge (tgt := 51) hx hb dX10_addNode_44 (by decide) (fun c4 => ?_) (fun c5 => ?_)
      · have hw := hw.1 c4
        refine lv_iload hx hb dX10_addNode_51 (lv_at hl 0 rfl) ?_
        refine lv_aload_n hx hb dX10_addNode_53 rfl (lv_at hl 1 rfl) ?_
        refine va_get (D := (dC, dI)) (ci := 10) (v := .ref (ad_p0 5)) (C := RX10) (T := TX10) (N := 50) hx hb hts iX10 hown hK hP 0 rfl rfl 5 (by decide) (hts (.fieldLink RX10 19 "NetHouseModel" "puts" "[I") (by decide +kernel)) (fun _ h9 => h9) rfl dX10_addNode_54 ?_
        refine lv_bipush (v := 16) hx hb dX10_addNode_57 (by decide) ?_
        refine lv_iload_n hx hb dX10_addNode_59 rfl (lv_at hl 3 rfl) ?_
        refine lv_imul hx hb dX10_addNode_60 ?_
        refine lv_iload hx hb dX10_addNode_61 (lv_at hl 5 rfl) ?_
        refine lv_iadd hx hb dX10_addNode_63 ?_
        refine va_iald hx hb hK hP 3 0 rfl rfl hw.1 dX10_addNode_64 ?_
        have hw := hw.2
        refine lv_iadd hx hb dX10_addNode_65 ?_
        refine lv_aload_n hx hb dX10_addNode_66 rfl (lv_at hl 1 rfl) ?_
        refine va_get (D := (dC, dI)) (ci := 10) (v := .ref (ad_p0 4)) (C := RX10) (T := TX10) (N := 50) hx hb hts iX10 hown hK hP 0 rfl rfl 4 (by decide) (hts (.fieldLink RX10 16 "NetHouseModel" "takes" "[I") (by decide +kernel)) (fun _ h9 => h9) rfl dX10_addNode_67 ?_
        refine lv_bipush (v := 16) hx hb dX10_addNode_70 (by decide) ?_
        refine lv_iload_n hx hb dX10_addNode_72 rfl (lv_at hl 3 rfl) ?_
        refine lv_imul hx hb dX10_addNode_73 ?_
        refine lv_iload hx hb dX10_addNode_74 (lv_at hl 5 rfl) ?_
        refine lv_iadd hx hb dX10_addNode_76 ?_
        refine va_iald hx hb hK hP 5 0 rfl rfl hw.1 dX10_addNode_77 ?_
        have hw := hw.2
        refine lv_isub hx hb dX10_addNode_78 ?_
        refine va_iast hx hb hK hP hD hS 2 0 rfl rfl hw.1 dX10_addNode_79 (fun H locs hP hD hS => ?_)
        have hw := hw.2
        have hP : va_P (dC, dI) vwCl (wld_X10_addNode cI cJ cZ h_p0 ad_p0 p0_places p0_steps p0_pastFirst p0_past p0_goings p0_rowSize p0_ways p0_hasField p0_fieldSize p0_faultNow p0_hasTree p0_treeSize p0_weightCount p0_roundCount p0_setCount p0_aboveOf (upd p0_nodes (((16 : Int32) * v3) + v4).toNatClampNeg ((x3 + (p0_puts (((16 : Int32) * v2) + v4).toNatClampNeg)) - (p0_takes (((16 : Int32) * v2) + v4).toNatClampNeg))) p0_puts p0_stepOf p0_takes) H := hP
        have hD : va_D A (wld_X10_addNode cI cJ cZ h_p0 ad_p0 p0_places p0_steps p0_pastFirst p0_past p0_goings p0_rowSize p0_ways p0_hasField p0_fieldSize p0_faultNow p0_hasTree p0_treeSize p0_weightCount p0_roundCount p0_setCount p0_aboveOf (upd p0_nodes (((16 : Int32) * v3) + v4).toNatClampNeg ((x3 + (p0_puts (((16 : Int32) * v2) + v4).toNatClampNeg)) - (p0_takes (((16 : Int32) * v2) + v4).toNatClampNeg))) p0_puts p0_stepOf p0_takes) := hD
        obtain ⟨x6, ex6⟩ : ∃ y : Int32, y = v4 + (1 : Int32) := ⟨_, rfl⟩
        have hw := hw x6 ex6
        refine lv_iinc (v := x6) (lv' := [(4, .int x6), (5, .int x3), (0, .ref h_p0), (1, .int v1), (2, .int v2), (3, .int v3)]) hx hb dX10_addNode_80 hl (k := 5) rfl (by rw [ex6]; rfl) (by decide) rfl (fun ls hl => ?_)
        refine lv_goto (tgt := 8) hx hb dX10_addNode_83 (by decide) ?_
        exact ih _ _ hw _ _ _ hP hD hS (lv_sub hl [2, 3, 4, 5, 0] rfl)
      · have hw := hw.2 c5
        refine lv_iconst (v := -1) hx hb dX10_addNode_47 (by decide) ?_
        refine lv_goto (tgt := 79) hx hb dX10_addNode_48 (by decide) ?_
        refine va_iast hx hb hK hP hD hS 2 0 rfl rfl hw.1 dX10_addNode_79 (fun H locs hP hD hS => ?_)
        have hw := hw.2
        have hP : va_P (dC, dI) vwCl (wld_X10_addNode cI cJ cZ h_p0 ad_p0 p0_places p0_steps p0_pastFirst p0_past p0_goings p0_rowSize p0_ways p0_hasField p0_fieldSize p0_faultNow p0_hasTree p0_treeSize p0_weightCount p0_roundCount p0_setCount p0_aboveOf (upd p0_nodes (((16 : Int32) * v3) + v4).toNatClampNeg (-1 : Int32)) p0_puts p0_stepOf p0_takes) H := hP
        have hD : va_D A (wld_X10_addNode cI cJ cZ h_p0 ad_p0 p0_places p0_steps p0_pastFirst p0_past p0_goings p0_rowSize p0_ways p0_hasField p0_fieldSize p0_faultNow p0_hasTree p0_treeSize p0_weightCount p0_roundCount p0_setCount p0_aboveOf (upd p0_nodes (((16 : Int32) * v3) + v4).toNatClampNeg (-1 : Int32)) p0_puts p0_stepOf p0_takes) := hD
        obtain ⟨x7, ex7⟩ : ∃ y : Int32, y = v4 + (1 : Int32) := ⟨_, rfl⟩
        have hw := hw x7 ex7
        refine lv_iinc (v := x7) (lv' := [(4, .int x7), (5, .int x3), (0, .ref h_p0), (1, .int v1), (2, .int v2), (3, .int v3)]) hx hb dX10_addNode_80 hl (k := 5) rfl (by rw [ex7]; rfl) (by decide) rfl (fun ls hl => ?_)
        refine lv_goto (tgt := 8) hx hb dX10_addNode_83 (by decide) ?_
        exact ih _ _ hw _ _ _ hP hD hS (lv_sub hl [2, 3, 4, 5, 0] rfl)
set_option maxHeartbeats 4000000 in
set_option maxRecDepth 100000 in
theorem c_X10_addNode_L113 {p : Program} {l : Launch} {e : Env} {s : State} {m : MethodId} {args : Array Value} {below : List Frame} {meth : Method} {c : Code} {dC : Nat → ClassId} {dI : Nat → Nat → Nat} {A : Nat → Prop} {cI cJ cZ : ClassId} {h_p0 : Nat} {ad_p0 : Nat → Nat} {p0_places : Int32} {p0_steps : Int32} {p0_pastFirst : Int32} {p0_past : Int32} {p0_goings : Int32} {p0_rowSize : Int32} {p0_ways : Int32} {p0_hasField : Int32} {p0_fieldSize : Int32} {p0_faultNow : Int32} {p0_hasTree : Int32} {p0_treeSize : Int32} {p0_weightCount : Int32} {p0_roundCount : Int32} {p0_setCount : Int32} {p0_aboveOf : Nat → Int32} {p0_puts : Nat → Int32} {p0_stepOf : Nat → Int32} {p0_takes : Nat → Int32} {v3 : Int32} {z_p0_nodes : Nat → Int32} {post : (Int32) → (Nat → Int32) → (Nat → Int32) → (Nat → Int32) → Prop} {K : (Int32) → (Nat → Int32) → Prop} (E0 : xEnv p s m args meth c cX10_addNode none 6 RX10 wsX10_addNode (dC, dI) cI cJ cZ A) (hk : ∀ (v4 : Int32) (p0_nodes : Nat → Int32) (H : Heap) (locs : List Loc) (ls : Array Slot), K v4 p0_nodes → va_P (dC, dI) vwCl (wld_X10_addNode cI cJ cZ h_p0 ad_p0 p0_places p0_steps p0_pastFirst p0_past p0_goings p0_rowSize p0_ways p0_hasField p0_fieldSize p0_faultNow p0_hasTree p0_treeSize p0_weightCount p0_roundCount p0_setCount p0_aboveOf p0_nodes p0_puts p0_stepOf p0_takes) H → va_D A (wld_X10_addNode cI cJ cZ h_p0 ad_p0 p0_places p0_steps p0_pastFirst p0_past p0_goings p0_rowSize p0_ways p0_hasField p0_fieldSize p0_faultNow p0_hasTree p0_treeSize p0_weightCount p0_roundCount p0_setCount p0_aboveOf p0_nodes p0_puts p0_stepOf p0_takes) → va_S A s.heap H locs → lv_has ls 6 [] → W p l e ({ frames := 3, cells := 0, slots := 0, locals := 69 }) s m args below meth c H locs 0 0 (MQ below (q_X10_addNode dC dI cI cJ cZ h_p0 ad_p0 p0_places p0_steps p0_pastFirst p0_past p0_goings p0_rowSize p0_ways p0_hasField p0_fieldSize p0_faultNow p0_hasTree p0_treeSize p0_weightCount p0_roundCount p0_setCount p0_aboveOf z_p0_nodes p0_puts p0_stepOf p0_takes post A) args s 0 0 A) (F0 m 141 ls [])) : ∀ (n : Nat) (v4 : Int32) (p0_nodes : Nat → Int32), w_X10_addNode_L113 v3 p0_places p0_treeSize p0_aboveOf p0_puts p0_stepOf p0_takes post K n v4 p0_nodes → ∀ (H : Heap) (locs : List Loc) (ls : Array Slot), va_P (dC, dI) vwCl (wld_X10_addNode cI cJ cZ h_p0 ad_p0 p0_places p0_steps p0_pastFirst p0_past p0_goings p0_rowSize p0_ways p0_hasField p0_fieldSize p0_faultNow p0_hasTree p0_treeSize p0_weightCount p0_roundCount p0_setCount p0_aboveOf p0_nodes p0_puts p0_stepOf p0_takes) H → va_D A (wld_X10_addNode cI cJ cZ h_p0 ad_p0 p0_places p0_steps p0_pastFirst p0_past p0_goings p0_rowSize p0_ways p0_hasField p0_fieldSize p0_faultNow p0_hasTree p0_treeSize p0_weightCount p0_roundCount p0_setCount p0_aboveOf p0_nodes p0_puts p0_stepOf p0_takes) → va_S A s.heap H locs → lv_has ls 6 [(0, .ref h_p0), (3, .int v3), (4, .int v4)] → W p l e ({ frames := 3, cells := 0, slots := 0, locals := 69 }) s m args below meth c H locs 0 0 (MQ below (q_X10_addNode dC dI cI cJ cZ h_p0 ad_p0 p0_places p0_steps p0_pastFirst p0_past p0_goings p0_rowSize p0_ways p0_hasField p0_fieldSize p0_faultNow p0_hasTree p0_treeSize p0_weightCount p0_roundCount p0_setCount p0_aboveOf z_p0_nodes p0_puts p0_stepOf p0_takes post A) args s 0 0 A) (F0 m 113 ls []) := by
  obtain ⟨hx, hb, hr, hml, hown, hts, hlocks, hK, hA, n1, n2⟩ := id E0
  have iX10 : ∀ w ∈ u_ws RX10 TX10 50, w ∈ wsX10_addNode := fun w h => List.mem_cons_of_mem _ (List.mem_append_right _ h)
  intro n
  induction n with
  | zero => intro v4 p0_nodes hw; exact hw.elim
  | succ n ih =>
    intro v4 p0_nodes hw H locs ls hP hD hS hl
    have hw : w_X10_addNode_L113b v3 p0_places p0_treeSize p0_aboveOf p0_puts p0_stepOf p0_takes post K (w_X10_addNode_L113 v3 p0_places p0_treeSize p0_aboveOf p0_puts p0_stepOf p0_takes post K n) v4 p0_nodes := hw
    unfold w_X10_addNode_L113b at hw
    refine lv_iload hx hb dX10_addNode_113 (lv_at hl 2 rfl) ?_
    refine lv_ldc (v := -2000000005) hx hb hown (hts (.constant RX10 85 (-2000000005)) (by decide +kernel)) dX10_addNode_115 ?_
    refine lv_icmp_eq (tgt := 141) hx hb dX10_addNode_117 (by decide) (fun c12 => ?_) (fun c13 => ?_)
    · have hw := hw.1 c12
      exact hk _ _ _ _ _ hw hP hD hS (lv_sub hl [] rfl)
    · have hw := hw.2 c13
      refine lv_aload_n hx hb dX10_addNode_120 rfl (lv_at hl 0 rfl) ?_
      refine lv_iload_n hx hb dX10_addNode_121 rfl (lv_at hl 1 rfl) ?_
      refine lv_iload hx hb dX10_addNode_122 (lv_at hl 2 rfl) ?_
      obtain ⟨hPc, hDc⟩ := x_sub (wc := (wld_X10_grows cI cJ cZ h_p0 ad_p0 p0_places p0_steps p0_pastFirst p0_past p0_goings p0_rowSize p0_ways p0_hasField p0_fieldSize p0_faultNow p0_hasTree p0_treeSize p0_weightCount p0_roundCount p0_setCount p0_nodes)) hP hD [0, 2] (n := 6) rfl rfl (by decide +kernel)
      refine x_calli (ws' := fun (u : (Nat → Int32)) => (wld_X10_addNode cI cJ cZ h_p0 ad_p0 p0_places p0_steps p0_pastFirst p0_past p0_goings p0_rowSize p0_ways p0_hasField p0_fieldSize p0_faultNow p0_hasTree p0_treeSize p0_weightCount p0_roundCount p0_setCount p0_aboveOf u p0_puts p0_stepOf p0_takes)) hP hD hS hA [0, 2] [1, 3, 4, 5] [4, 0, 5, 1, 2, 3] (n := 6) (k := 2) rfl (fun _ => rfl) rfl (by decide +kernel) (fun _ => rfl) (va_runV (As := [.int v3, .int v4]) (rest := []) ⟨hx, hb, hml, hown, hts⟩ (c_X10_grows (l := l) (dC := dC) (dI := dI) (cI := cI) (cJ := cJ) (cZ := cZ) (sz := H.size) (h_p0 := h_p0) (ad_p0 := ad_p0) (p0_places := p0_places) (p0_steps := p0_steps) (p0_pastFirst := p0_pastFirst) (p0_past := p0_past) (p0_goings := p0_goings) (p0_rowSize := p0_rowSize) (p0_ways := p0_ways) (p0_hasField := p0_hasField) (p0_fieldSize := p0_fieldSize) (p0_faultNow := p0_faultNow) (p0_hasTree := p0_hasTree) (p0_treeSize := p0_treeSize) (p0_weightCount := p0_weightCount) (p0_roundCount := p0_roundCount) (p0_setCount := p0_setCount) (p0_nodes := p0_nodes) hw) (cwV 2 hts gX10_addNode_X10_grows rfl rfl rfl (by decide +kernel) ⟨Nat.le_of_ble_eq_true rfl, Nat.le_of_ble_eq_true rfl⟩) ⟨xPre_blind, va_recv hK hP (ci := 10) (q0 := 0) rfl rfl, xPre_at hK hPc hDc n1 n2⟩ rfl rfl hl.1 rfl (lv_room (Nat.le_of_ble_eq_true rfl)) dX10_addNode_124 ⟨Nat.zero_le _, Nat.zero_le _⟩) (fun r14 u H locs hw hP hD hS => ?_)
      obtain ⟨y15, rfl⟩ : ∃ z, z = u := ⟨_, rfl⟩
      try dsimp only at hw
      have hP : va_P (dC, dI) vwCl (wld_X10_addNode cI cJ cZ h_p0 ad_p0 p0_places p0_steps p0_pastFirst p0_past p0_goings p0_rowSize p0_ways p0_hasField p0_fieldSize p0_faultNow p0_hasTree p0_treeSize p0_weightCount p0_roundCount p0_setCount p0_aboveOf y15 p0_puts p0_stepOf p0_takes) H := hP
      have hD : va_D A (wld_X10_addNode cI cJ cZ h_p0 ad_p0 p0_places p0_steps p0_pastFirst p0_past p0_goings p0_rowSize p0_ways p0_hasField p0_fieldSize p0_faultNow p0_hasTree p0_treeSize p0_weightCount p0_roundCount p0_setCount p0_aboveOf y15 p0_puts p0_stepOf p0_takes) := hD
      refine lv_istore (lv' := [(5, .int r14), (0, .ref h_p0), (3, .int v3), (4, .int v4)]) hx hb dX10_addNode_127 hl (by decide) rfl (fun ls hl => ?_)
      refine lv_aload_n hx hb dX10_addNode_129 rfl (lv_at hl 1 rfl) ?_
      refine va_get (D := (dC, dI)) (ci := 10) (v := .ref (ad_p0 37)) (C := RX10) (T := TX10) (N := 50) hx hb hts iX10 hown hK hP 0 rfl rfl 37 (by decide) (hts (.fieldLink RX10 93 "NetHouseModel" "aboveOf" "[I") (by decide +kernel)) (fun _ h9 => h9) rfl dX10_addNode_130 ?_
      refine lv_iload hx hb dX10_addNode_133 (lv_at hl 3 rfl) ?_
      refine va_iald hx hb hK hP 1 0 rfl rfl hw.1 dX10_addNode_135 ?_
      have hw := hw.2
      refine lv_topi (fun x16 ex16 => ?_)
      have hw := hw x16 ex16
      refine lv_istore (lv' := [(4, .int x16), (5, .int r14), (0, .ref h_p0), (3, .int v3)]) hx hb dX10_addNode_136 hl (by decide) rfl (fun ls hl => ?_)
      refine lv_goto (tgt := 113) hx hb dX10_addNode_138 (by decide) ?_
      exact ih _ _ hw _ _ _ hP hD hS (lv_sub hl [2, 3, 0] rfl)
set_option maxHeartbeats 4000000 in
set_option maxRecDepth 100000 in
theorem c_X10_addNode {l : Launch} {dC : Nat → ClassId} {dI : Nat → Nat → Nat} {sz : Nat} {cI cJ cZ : ClassId} {h_p0 : Nat} {ad_p0 : Nat → Nat} {p0_places : Int32} {p0_steps : Int32} {p0_pastFirst : Int32} {p0_past : Int32} {p0_goings : Int32} {p0_rowSize : Int32} {p0_ways : Int32} {p0_hasField : Int32} {p0_fieldSize : Int32} {p0_faultNow : Int32} {p0_hasTree : Int32} {p0_treeSize : Int32} {p0_weightCount : Int32} {p0_roundCount : Int32} {p0_setCount : Int32} {p0_aboveOf : Nat → Int32} {p0_nodes : Nat → Int32} {p0_puts : Nat → Int32} {p0_stepOf : Nat → Int32} {p0_takes : Nat → Int32} {a1 : Int32} {a2 : Int32} {post : (Int32) → (Nat → Int32) → (Nat → Int32) → (Nat → Int32) → Prop} (hw : w_X10_addNode p0_places p0_treeSize p0_aboveOf p0_nodes p0_puts p0_stepOf p0_takes a1 a2 post) : Met l yX10_addNode wsX10_addNode ({ frames := 3, cells := 0, slots := 0, locals := 69 }) (va_Pc [.ref h_p0, .int a1, .int a2] (xPre (dC, dI) cI cJ cZ (wld_X10_addNode cI cJ cZ h_p0 ad_p0 p0_places p0_steps p0_pastFirst p0_past p0_goings p0_rowSize p0_ways p0_hasField p0_fieldSize p0_faultNow p0_hasTree p0_treeSize p0_weightCount p0_roundCount p0_setCount p0_aboveOf p0_nodes p0_puts p0_stepOf p0_takes) sz)) (q_X10_addNode dC dI cI cJ cZ h_p0 ad_p0 p0_places p0_steps p0_pastFirst p0_past p0_goings p0_rowSize p0_ways p0_hasField p0_fieldSize p0_faultNow p0_hasTree p0_treeSize p0_weightCount p0_roundCount p0_setCount p0_aboveOf p0_nodes p0_puts p0_stepOf p0_takes post (va_A (wld_X10_addNode cI cJ cZ h_p0 ad_p0 p0_places p0_steps p0_pastFirst p0_past p0_goings p0_rowSize p0_ways p0_hasField p0_fieldSize p0_faultNow p0_hasTree p0_treeSize p0_weightCount p0_roundCount p0_setCount p0_aboveOf p0_nodes p0_puts p0_stepOf p0_takes) sz)) 0 0 (va_A (wld_X10_addNode cI cJ cZ h_p0 ad_p0 p0_places p0_steps p0_pastFirst p0_past p0_goings p0_rowSize p0_ways p0_hasField p0_fieldSize p0_faultNow p0_hasTree p0_treeSize p0_weightCount p0_roundCount p0_setCount p0_aboveOf p0_nodes p0_puts p0_stepOf p0_takes) sz) := by
  refine x_met (cc := cX10_addNode) (maxL := 6) (ret := none) (own := RX10) (Qc := fun A => (q_X10_addNode dC dI cI cJ cZ h_p0 ad_p0 p0_places p0_steps p0_pastFirst p0_past p0_goings p0_rowSize p0_ways p0_hasField p0_fieldSize p0_faultNow p0_hasTree p0_treeSize p0_weightCount p0_roundCount p0_setCount p0_aboveOf p0_nodes p0_puts p0_stepOf p0_takes post A)) (by decide) rfl rfl (Nat.le_of_ble_eq_true rfl) ?_
  intro p e s m args below meth c A ls E0 hP hD hS hl
  obtain ⟨hx, hb, hr, hml, hown, hts, hlocks, hK, hA, n1, n2⟩ := id E0
  have iX10 : ∀ w ∈ u_ws RX10 TX10 50, w ∈ wsX10_addNode := fun w h => List.mem_cons_of_mem _ (List.mem_append_right _ h)
  have hS0 := hS
  have hl : lv_has ls 6 [(0, .ref h_p0), (1, .int a1), (2, .int a2)] := hl
  unfold w_X10_addNode at hw
  obtain ⟨H, hH⟩ : ∃ H, H = s.heap := ⟨_, rfl⟩
  have hS : va_S A s.heap H [] := by rw [hH]; exact hS
  have hP : va_P (dC, dI) vwCl (wld_X10_addNode cI cJ cZ h_p0 ad_p0 p0_places p0_steps p0_pastFirst p0_past p0_goings p0_rowSize p0_ways p0_hasField p0_fieldSize p0_faultNow p0_hasTree p0_treeSize p0_weightCount p0_roundCount p0_setCount p0_aboveOf p0_nodes p0_puts p0_stepOf p0_takes) H := by rw [hH]; exact hP
  suffices hG : W p l e ({ frames := 3, cells := 0, slots := 0, locals := 69 }) s m args below meth c H [] 0 0 (MQ below (q_X10_addNode dC dI cI cJ cZ h_p0 ad_p0 p0_places p0_steps p0_pastFirst p0_past p0_goings p0_rowSize p0_ways p0_hasField p0_fieldSize p0_faultNow p0_hasTree p0_treeSize p0_weightCount p0_roundCount p0_setCount p0_aboveOf p0_nodes p0_puts p0_stepOf p0_takes post A) args s 0 0 A) (F0 m 0 ls []) by rw [hH] at hG; exact hG
  clear hH
  refine lv_aload_n hx hb dX10_addNode_0 rfl (lv_at hl 0 rfl) ?_
  refine va_get (D := (dC, dI)) (ci := 10) (v := .int p0_treeSize) (C := RX10) (T := TX10) (N := 50) hx hb hts iX10 hown hK hP 0 rfl rfl 35 (by decide) (hts (.fieldLink RX10 140 "NetHouseModel" "treeSize" "I") (by decide +kernel)) (fun _ h9 => h9) rfl dX10_addNode_1 ?_
  refine lv_istore_n (lv' := [(3, .int p0_treeSize), (0, .ref h_p0), (1, .int a1), (2, .int a2)]) hx hb dX10_addNode_4 rfl hl (by decide) rfl (fun ls hl => ?_)
  refine lv_iconst (v := 0) hx hb dX10_addNode_5 (by decide) ?_
  refine lv_istore (lv' := [(4, .int (0 : Int32)), (3, .int p0_treeSize), (0, .ref h_p0), (1, .int a1), (2, .int a2)]) hx hb dX10_addNode_6 hl (by decide) rfl (fun ls hl => ?_)
  obtain ⟨n8, hw⟩ := hw
  refine c_X10_addNode_L8 (l := l) (z_p0_nodes := p0_nodes) E0 ?_ n8 _ _ hw _ _ _ hP hD hS (lv_sub hl [2, 3, 4, 1, 0] rfl)
  · intro v9 s10 H locs ls hw hP hD hS hl
    have hP : va_P (dC, dI) vwCl (wld_X10_addNode cI cJ cZ h_p0 ad_p0 p0_places p0_steps p0_pastFirst p0_past p0_goings p0_rowSize p0_ways p0_hasField p0_fieldSize p0_faultNow p0_hasTree p0_treeSize p0_weightCount p0_roundCount p0_setCount p0_aboveOf s10 p0_puts p0_stepOf p0_takes) H := hP
    have hD : va_D A (wld_X10_addNode cI cJ cZ h_p0 ad_p0 p0_places p0_steps p0_pastFirst p0_past p0_goings p0_rowSize p0_ways p0_hasField p0_fieldSize p0_faultNow p0_hasTree p0_treeSize p0_weightCount p0_roundCount p0_setCount p0_aboveOf s10 p0_puts p0_stepOf p0_takes) := hD
    refine lv_aload_n hx hb dX10_addNode_86 rfl (lv_at hl 0 rfl) ?_
    refine va_get (D := (dC, dI)) (ci := 10) (v := .ref (ad_p0 37)) (C := RX10) (T := TX10) (N := 50) hx hb hts iX10 hown hK hP 0 rfl rfl 37 (by decide) (hts (.fieldLink RX10 93 "NetHouseModel" "aboveOf" "[I") (by decide +kernel)) (fun _ h9 => h9) rfl dX10_addNode_87 ?_
    refine lv_iload_n hx hb dX10_addNode_90 rfl (lv_at hl 3 rfl) ?_
    refine lv_iload_n hx hb dX10_addNode_91 rfl (lv_at hl 1 rfl) ?_
    refine va_iast hx hb hK hP hD hS 1 0 rfl rfl hw.1 dX10_addNode_92 (fun H locs hP hD hS => ?_)
    have hw := hw.2
    have hP : va_P (dC, dI) vwCl (wld_X10_addNode cI cJ cZ h_p0 ad_p0 p0_places p0_steps p0_pastFirst p0_past p0_goings p0_rowSize p0_ways p0_hasField p0_fieldSize p0_faultNow p0_hasTree p0_treeSize p0_weightCount p0_roundCount p0_setCount (upd p0_aboveOf p0_treeSize.toNatClampNeg a1) s10 p0_puts p0_stepOf p0_takes) H := hP
    have hD : va_D A (wld_X10_addNode cI cJ cZ h_p0 ad_p0 p0_places p0_steps p0_pastFirst p0_past p0_goings p0_rowSize p0_ways p0_hasField p0_fieldSize p0_faultNow p0_hasTree p0_treeSize p0_weightCount p0_roundCount p0_setCount (upd p0_aboveOf p0_treeSize.toNatClampNeg a1) s10 p0_puts p0_stepOf p0_takes) := hD
    refine lv_aload_n hx hb dX10_addNode_93 rfl (lv_at hl 0 rfl) ?_
    refine va_get (D := (dC, dI)) (ci := 10) (v := .ref (ad_p0 38)) (C := RX10) (T := TX10) (N := 50) hx hb hts iX10 hown hK hP 0 rfl rfl 38 (by decide) (hts (.fieldLink RX10 96 "NetHouseModel" "stepOf" "[I") (by decide +kernel)) (fun _ h9 => h9) rfl dX10_addNode_94 ?_
    refine lv_iload_n hx hb dX10_addNode_97 rfl (lv_at hl 3 rfl) ?_
    refine lv_iload_n hx hb dX10_addNode_98 rfl (lv_at hl 2 rfl) ?_
    refine va_iast hx hb hK hP hD hS 4 0 rfl rfl hw.1 dX10_addNode_99 (fun H locs hP hD hS => ?_)
    have hw := hw.2
    have hP : va_P (dC, dI) vwCl (wld_X10_addNode cI cJ cZ h_p0 ad_p0 p0_places p0_steps p0_pastFirst p0_past p0_goings p0_rowSize p0_ways p0_hasField p0_fieldSize p0_faultNow p0_hasTree p0_treeSize p0_weightCount p0_roundCount p0_setCount (upd p0_aboveOf p0_treeSize.toNatClampNeg a1) s10 p0_puts (upd p0_stepOf p0_treeSize.toNatClampNeg a2) p0_takes) H := hP
    have hD : va_D A (wld_X10_addNode cI cJ cZ h_p0 ad_p0 p0_places p0_steps p0_pastFirst p0_past p0_goings p0_rowSize p0_ways p0_hasField p0_fieldSize p0_faultNow p0_hasTree p0_treeSize p0_weightCount p0_roundCount p0_setCount (upd p0_aboveOf p0_treeSize.toNatClampNeg a1) s10 p0_puts (upd p0_stepOf p0_treeSize.toNatClampNeg a2) p0_takes) := hD
    refine lv_aload_n hx hb dX10_addNode_100 rfl (lv_at hl 0 rfl) ?_
    refine lv_dup hx hb dX10_addNode_101 rfl ?_
    refine va_get (D := (dC, dI)) (ci := 10) (v := .int p0_treeSize) (C := RX10) (T := TX10) (N := 50) hx hb hts iX10 hown hK hP 0 rfl rfl 35 (by decide) (hts (.fieldLink RX10 140 "NetHouseModel" "treeSize" "I") (by decide +kernel)) (fun _ h9 => h9) rfl dX10_addNode_102 ?_
    refine lv_iconst (v := 1) hx hb dX10_addNode_105 (by decide) ?_
    refine lv_iadd hx hb dX10_addNode_106 ?_
    refine lv_topi (fun x11 ex11 => ?_)
    have hw := hw x11 ex11
    refine va_put (D := (dC, dI)) (ci := 10) (v := .int x11) (ty := .int) (C := RX10) (T := TX10) (N := 50) hx hb hts iX10 tyX10 tyX10_ok nmX10 hown hK hP hD hS 0 rfl rfl 35 (by decide) (hts (.fieldLink RX10 140 "NetHouseModel" "treeSize" "I") (by decide +kernel)) (fun _ h9 => h9) rfl (by decide +kernel) rfl rfl (Nat.le_of_ble_eq_true rfl) dX10_addNode_107 (fun H locs hP hD hS => ?_)
    have hP : va_P (dC, dI) vwCl (wld_X10_addNode cI cJ cZ h_p0 ad_p0 p0_places p0_steps p0_pastFirst p0_past p0_goings p0_rowSize p0_ways p0_hasField p0_fieldSize p0_faultNow p0_hasTree x11 p0_weightCount p0_roundCount p0_setCount (upd p0_aboveOf p0_treeSize.toNatClampNeg a1) s10 p0_puts (upd p0_stepOf p0_treeSize.toNatClampNeg a2) p0_takes) H := hP
    have hD : va_D A (wld_X10_addNode cI cJ cZ h_p0 ad_p0 p0_places p0_steps p0_pastFirst p0_past p0_goings p0_rowSize p0_ways p0_hasField p0_fieldSize p0_faultNow p0_hasTree x11 p0_weightCount p0_roundCount p0_setCount (upd p0_aboveOf p0_treeSize.toNatClampNeg a1) s10 p0_puts (upd p0_stepOf p0_treeSize.toNatClampNeg a2) p0_takes) := hD
    refine lv_iload_n hx hb dX10_addNode_110 rfl (lv_at hl 1 rfl) ?_
    refine lv_istore (lv' := [(4, .int a1), (0, .ref h_p0), (1, .int a1), (2, .int a2), (3, .int p0_treeSize)]) hx hb dX10_addNode_111 hl (by decide) rfl (fun ls hl => ?_)
    obtain ⟨n17, hw⟩ := hw
    refine c_X10_addNode_L113 (l := l) (z_p0_nodes := s10) E0 ?_ n17 _ _ hw _ _ _ hP hD hS (lv_sub hl [1, 4, 0] rfl)
    · intro v18 s19 H locs ls hw hP hD hS hl
      have hP : va_P (dC, dI) vwCl (wld_X10_addNode cI cJ cZ h_p0 ad_p0 p0_places p0_steps p0_pastFirst p0_past p0_goings p0_rowSize p0_ways p0_hasField p0_fieldSize p0_faultNow p0_hasTree x11 p0_weightCount p0_roundCount p0_setCount (upd p0_aboveOf p0_treeSize.toNatClampNeg a1) s19 p0_puts (upd p0_stepOf p0_treeSize.toNatClampNeg a2) p0_takes) H := hP
      have hD : va_D A (wld_X10_addNode cI cJ cZ h_p0 ad_p0 p0_places p0_steps p0_pastFirst p0_past p0_goings p0_rowSize p0_ways p0_hasField p0_fieldSize p0_faultNow p0_hasTree x11 p0_weightCount p0_roundCount p0_setCount (upd p0_aboveOf p0_treeSize.toNatClampNeg a1) s19 p0_puts (upd p0_stepOf p0_treeSize.toNatClampNeg a2) p0_takes) := hD
      exact x_vret (w1 := fun (u : (Int32) × (Nat → Int32) × (Nat → Int32) × (Nat → Int32)) => (wld_X10_addNode cI cJ cZ h_p0 ad_p0 p0_places p0_steps p0_pastFirst p0_past p0_goings p0_rowSize p0_ways p0_hasField p0_fieldSize p0_faultNow p0_hasTree (u.1) p0_weightCount p0_roundCount p0_setCount (u.2.1) (u.2.2.1) p0_puts (u.2.2.2) p0_takes)) hx hb hr hlocks (x11, (upd p0_aboveOf p0_treeSize.toNatClampNeg a1), s19, (upd p0_stepOf p0_treeSize.toNatClampNeg a2)) hw hP hD hS dX10_addNode_141
abbrev wld_X10_isSame (cI cJ cZ : ClassId) (h_p0 : Nat) (ad_p0 : Nat → Nat) (p0_places : Int32) (p0_steps : Int32) (p0_pastFirst : Int32) (p0_past : Int32) (p0_goings : Int32) (p0_rowSize : Int32) (p0_ways : Int32) (p0_hasField : Int32) (p0_fieldSize : Int32) (p0_faultNow : Int32) (p0_hasTree : Int32) (p0_treeSize : Int32) (p0_weightCount : Int32) (p0_roundCount : Int32) (p0_setCount : Int32) (p0_nodes : Nat → Int32) : va_W := [(h_p0, .inr (10, [.int p0_places, .int p0_steps, .ref (ad_p0 2), .ref (ad_p0 3), .ref (ad_p0 4), .ref (ad_p0 5), .ref (ad_p0 6), .ref (ad_p0 7), .ref (ad_p0 8), .ref (ad_p0 9), .ref (ad_p0 10), .ref (ad_p0 11), .ref (ad_p0 12), .ref (ad_p0 13), .ref (ad_p0 14), .int p0_pastFirst, .int p0_past, .int p0_goings, .int p0_rowSize, .ref (ad_p0 19), .ref (ad_p0 20), .int p0_ways, .ref (ad_p0 22), .ref (ad_p0 23), .int p0_hasField, .int p0_fieldSize, .ref (ad_p0 26), .ref (ad_p0 27), .ref (ad_p0 28), .ref (ad_p0 29), .ref (ad_p0 30), .ref (ad_p0 31), .ref (ad_p0 32), .int p0_faultNow, .int p0_hasTree, .int p0_treeSize, .ref (ad_p0 36), .ref (ad_p0 37), .ref (ad_p0 38), .ref (ad_p0 39), .ref (ad_p0 40), .ref (ad_p0 41), .ref (ad_p0 42), .int p0_weightCount, .ref (ad_p0 44), .int p0_roundCount, .ref (ad_p0 46), .int p0_setCount, .ref (ad_p0 48), .ref (ad_p0 49)])), ((ad_p0 36), .inl (cI, 32000, .inl p0_nodes))]
abbrev q_X10_isSame (dC : Nat → ClassId) (dI : Nat → Nat → Nat) (cI cJ cZ : ClassId) (h_p0 : Nat) (ad_p0 : Nat → Nat) (p0_places : Int32) (p0_steps : Int32) (p0_pastFirst : Int32) (p0_past : Int32) (p0_goings : Int32) (p0_rowSize : Int32) (p0_ways : Int32) (p0_hasField : Int32) (p0_fieldSize : Int32) (p0_faultNow : Int32) (p0_hasTree : Int32) (p0_treeSize : Int32) (p0_weightCount : Int32) (p0_roundCount : Int32) (p0_setCount : Int32) (p0_nodes : Nat → Int32) (post : Int32 → Prop) (A : Nat → Prop) : Array Value → State → Outcome → State → Prop := va_Qi (fun r (u : Unit) => post r ) (fun (u : Unit) t => xPost (dC, dI) A (wld_X10_isSame cI cJ cZ h_p0 ad_p0 p0_places p0_steps p0_pastFirst p0_past p0_goings p0_rowSize p0_ways p0_hasField p0_fieldSize p0_faultNow p0_hasTree p0_treeSize p0_weightCount p0_roundCount p0_setCount p0_nodes) t) A
def w_X10_isSame_L5b (v1 : Int32) (v2 : Int32) (p0_places : Int32) (p0_nodes : Nat → Int32) (post : Int32 → Prop) (K : (Int32) → (Int32) → Prop) (rec : (Int32) → (Int32) → Prop) (v3 : Int32) (v4 : Int32) : Prop :=
    (p0_places ≤ v4 →
      K v3 v4) ∧
    (¬ p0_places ≤ v4 →
      (v3 = 0 →
        ∀ x5 : Int32, x5 = v4 + (1 : Int32) →
        rec (0 : Int32) x5) ∧
      (¬ v3 = 0 →
        vp_in (((16 : Int32) * v1) + v4) 32000 ∧
        vp_in (((16 : Int32) * v2) + v4) 32000 ∧
        (¬ (p0_nodes (((16 : Int32) * v1) + v4).toNatClampNeg) = (p0_nodes (((16 : Int32) * v2) + v4).toNatClampNeg) →
          ∀ x8 : Int32, x8 = v4 + (1 : Int32) →
          rec (0 : Int32) x8) ∧
        ((p0_nodes (((16 : Int32) * v1) + v4).toNatClampNeg) = (p0_nodes (((16 : Int32) * v2) + v4).toNatClampNeg) →
          ∀ x9 : Int32, x9 = v4 + (1 : Int32) →
          rec (1 : Int32) x9)))
def w_X10_isSame_L5 (v1 : Int32) (v2 : Int32) (p0_places : Int32) (p0_nodes : Nat → Int32) (post : Int32 → Prop) (K : (Int32) → (Int32) → Prop) : Nat → (Int32) → (Int32) → Prop
  | 0, _, _ => False
  | n + 1, v3, v4 => w_X10_isSame_L5b v1 v2 p0_places p0_nodes post K (w_X10_isSame_L5 v1 v2 p0_places p0_nodes post K n) v3 v4
def w_X10_isSame (p0_places : Int32) (p0_nodes : Nat → Int32) (a1 : Int32) (a2 : Int32) (post : Int32 → Prop) : Prop :=
  ∃ n : Nat, w_X10_isSame_L5 a1 a2 p0_places p0_nodes post (fun v11 v12 =>
      v11 &&& 1 = v11 ∧
      (post v11)) n (1 : Int32) (0 : Int32)
set_option maxHeartbeats 4000000 in
set_option maxRecDepth 100000 in
theorem c_X10_isSame_L5 {p : Program} {l : Launch} {e : Env} {s : State} {m : MethodId} {args : Array Value} {below : List Frame} {meth : Method} {c : Code} {dC : Nat → ClassId} {dI : Nat → Nat → Nat} {A : Nat → Prop} {cI cJ cZ : ClassId} {h_p0 : Nat} {ad_p0 : Nat → Nat} {p0_places : Int32} {p0_steps : Int32} {p0_pastFirst : Int32} {p0_past : Int32} {p0_goings : Int32} {p0_rowSize : Int32} {p0_ways : Int32} {p0_hasField : Int32} {p0_fieldSize : Int32} {p0_faultNow : Int32} {p0_hasTree : Int32} {p0_treeSize : Int32} {p0_weightCount : Int32} {p0_roundCount : Int32} {p0_setCount : Int32} {p0_nodes : Nat → Int32} {v1 : Int32} {v2 : Int32}  {post : Int32 → Prop} {K : (Int32) → (Int32) → Prop} (E0 : xEnv p s m args meth c cX10_isSame (some .boolean) 5 RX10 wsX10_isSame (dC, dI) cI cJ cZ A) (hk : ∀ (v3 : Int32) (v4 : Int32) (H : Heap) (locs : List Loc) (ls : Array Slot), K v3 v4 → va_P (dC, dI) vwCl (wld_X10_isSame cI cJ cZ h_p0 ad_p0 p0_places p0_steps p0_pastFirst p0_past p0_goings p0_rowSize p0_ways p0_hasField p0_fieldSize p0_faultNow p0_hasTree p0_treeSize p0_weightCount p0_roundCount p0_setCount p0_nodes) H → va_D A (wld_X10_isSame cI cJ cZ h_p0 ad_p0 p0_places p0_steps p0_pastFirst p0_past p0_goings p0_rowSize p0_ways p0_hasField p0_fieldSize p0_faultNow p0_hasTree p0_treeSize p0_weightCount p0_roundCount p0_setCount p0_nodes) → va_S A s.heap H locs → lv_has ls 5 [(3, .int v3)] → W p l e ({ frames := 0, cells := 0, slots := 0, locals := 0 }) s m args below meth c H locs 0 0 (MQ below (q_X10_isSame dC dI cI cJ cZ h_p0 ad_p0 p0_places p0_steps p0_pastFirst p0_past p0_goings p0_rowSize p0_ways p0_hasField p0_fieldSize p0_faultNow p0_hasTree p0_treeSize p0_weightCount p0_roundCount p0_setCount p0_nodes post A) args s 0 0 A) (F0 m 57 ls [])) : ∀ (n : Nat) (v3 : Int32) (v4 : Int32), w_X10_isSame_L5 v1 v2 p0_places p0_nodes post K n v3 v4 → ∀ (H : Heap) (locs : List Loc) (ls : Array Slot), va_P (dC, dI) vwCl (wld_X10_isSame cI cJ cZ h_p0 ad_p0 p0_places p0_steps p0_pastFirst p0_past p0_goings p0_rowSize p0_ways p0_hasField p0_fieldSize p0_faultNow p0_hasTree p0_treeSize p0_weightCount p0_roundCount p0_setCount p0_nodes) H → va_D A (wld_X10_isSame cI cJ cZ h_p0 ad_p0 p0_places p0_steps p0_pastFirst p0_past p0_goings p0_rowSize p0_ways p0_hasField p0_fieldSize p0_faultNow p0_hasTree p0_treeSize p0_weightCount p0_roundCount p0_setCount p0_nodes) → va_S A s.heap H locs → lv_has ls 5 [(0, .ref h_p0), (1, .int v1), (2, .int v2), (3, .int v3), (4, .int v4)] → W p l e ({ frames := 0, cells := 0, slots := 0, locals := 0 }) s m args below meth c H locs 0 0 (MQ below (q_X10_isSame dC dI cI cJ cZ h_p0 ad_p0 p0_places p0_steps p0_pastFirst p0_past p0_goings p0_rowSize p0_ways p0_hasField p0_fieldSize p0_faultNow p0_hasTree p0_treeSize p0_weightCount p0_roundCount p0_setCount p0_nodes post A) args s 0 0 A) (F0 m 5 ls []) := by
  obtain ⟨hx, hb, hr, hml, hown, hts, hlocks, hK, hA, n1, n2⟩ := id E0
  have iX10 : ∀ w ∈ u_ws RX10 TX10 50, w ∈ wsX10_isSame := fun w h => List.mem_cons_of_mem _ (List.mem_append_right _ h)
  intro n
  induction n with
  | zero => intro v3 v4 hw; exact hw.elim
  | succ n ih =>
    intro v3 v4 hw H locs ls hP hD hS hl
    have hw : w_X10_isSame_L5b v1 v2 p0_places p0_nodes post K (w_X10_isSame_L5 v1 v2 p0_places p0_nodes post K n) v3 v4 := hw
    unfold w_X10_isSame_L5b at hw
    refine lv_iload hx hb dX10_isSame_5 (lv_at hl 4 rfl) ?_
    refine lv_aload_n hx hb dX10_isSame_7 rfl (lv_at hl 0 rfl) ?_
    refine va_get (D := (dC, dI)) (ci := 10) (v := .int p0_places) (C := RX10) (T := TX10) (N := 50) hx hb hts iX10 hown hK hP 0 rfl rfl 0 (by decide) (hts (.fieldLink RX10 127 "NetHouseModel" "places" "I") (by decide +kernel)) (fun _ h9 => h9) rfl dX10_isSame_8 ?_
    refine lv_icmp_ge (tgt := 57) hx hb dX10_isSame_11 (by decide) (fun c1 => ?_) (fun c2 => ?_)
    · have hw := hw.1 c1
      exact hk _ _ _ _ _ hw hP hD hS (lv_sub hl [3] rfl)
    · have hw := hw.2 c2
      refine lv_iload_n hx hb dX10_isSame_14 rfl (lv_at hl 3 rfl) ?_
      refine lv_if_eq (tgt := 49) hx hb dX10_isSame_15 (by decide) (fun c3 => ?_) (fun c4 => ?_)
      · have hw := hw.1 c3
        refine lv_iconst (v := 0) hx hb dX10_isSame_49 (by decide) ?_
        refine lv_istore_n (lv' := [(3, .int (0 : Int32)), (0, .ref h_p0), (1, .int v1), (2, .int v2), (4, .int v4)]) hx hb dX10_isSame_50 rfl hl (by decide) rfl (fun ls hl => ?_)
        obtain ⟨x5, ex5⟩ : ∃ y : Int32, y = v4 + (1 : Int32) := ⟨_, rfl⟩
        have hw := hw x5 ex5
        refine lv_iinc (v := x5) (lv' := [(4, .int x5), (3, .int (0 : Int32)), (0, .ref h_p0), (1, .int v1), (2, .int v2)]) hx hb dX10_isSame_51 hl (k := 4) rfl (by rw [ex5]; rfl) (by decide) rfl (fun ls hl => ?_)
        refine lv_goto (tgt := 5) hx hb dX10_isSame_54 (by decide) ?_
        exact ih _ _ hw _ _ _ hP hD hS (lv_sub hl [2, 3, 4, 1, 0] rfl)
      · have hw := hw.2 c4
        refine lv_aload_n hx hb dX10_isSame_18 rfl (lv_at hl 0 rfl) ?_
        refine va_get (D := (dC, dI)) (ci := 10) (v := .ref (ad_p0 36)) (C := RX10) (T := TX10) (N := 50) hx hb hts iX10 hown hK hP 0 rfl rfl 36 (by decide) (hts (.fieldLink RX10 90 "NetHouseModel" "nodes" "[I") (by decide +kernel)) (fun _ h9 => h9) rfl dX10_isSame_19 ?_
        refine lv_bipush (v := 16) hx hb dX10_isSame_22 (by decide) ?_
        refine lv_iload_n hx hb dX10_isSame_24 rfl (lv_at hl 1 rfl) ?_
        refine lv_imul hx hb dX10_isSame_25 ?_
        refine lv_iload hx hb dX10_isSame_26 (lv_at hl 4 rfl) ?_
        refine lv_iadd hx hb dX10_isSame_28 ?_
        refine va_iald hx hb hK hP 1 0 rfl rfl hw.1 dX10_isSame_29 ?_
        have hw := hw.2
        refine lv_aload_n hx hb dX10_isSame_30 rfl (lv_at hl 0 rfl) ?_
        refine va_get (D := (dC, dI)) (ci := 10) (v := .ref (ad_p0 36)) (C := RX10) (T := TX10) (N := 50) hx hb hts iX10 hown hK hP 0 rfl rfl 36 (by decide) (hts (.fieldLink RX10 90 "NetHouseModel" "nodes" "[I") (by decide +kernel)) (fun _ h9 => h9) rfl dX10_isSame_31 ?_
        refine lv_bipush (v := 16) hx hb dX10_isSame_34 (by decide) ?_
        refine lv_iload_n hx hb dX10_isSame_36 rfl (lv_at hl 2 rfl) ?_
        refine lv_imul hx hb dX10_isSame_37 ?_
        refine lv_iload hx hb dX10_isSame_38 (lv_at hl 4 rfl) ?_
        refine lv_iadd hx hb dX10_isSame_40 ?_
        refine va_iald hx hb hK hP 1 0 rfl rfl hw.1 dX10_isSame_41 ?_
        have hw := hw.2
        refine lv_icmp_ne (tgt := 49) hx hb dX10_isSame_42 (by decide) (fun c6 => ?_) (fun c7 => ?_)
        · have hw := hw.1 c6
          refine lv_iconst (v := 0) hx hb dX10_isSame_49 (by decide) ?_
          refine lv_istore_n (lv' := [(3, .int (0 : Int32)), (0, .ref h_p0), (1, .int v1), (2, .int v2), (4, .int v4)]) hx hb dX10_isSame_50 rfl hl (by decide) rfl (fun ls hl => ?_)
          obtain ⟨x8, ex8⟩ : ∃ y : Int32, y = v4 + (1 : Int32) := ⟨_, rfl⟩
          have hw := hw x8 ex8
          refine lv_iinc (v := x8) (lv' := [(4, .int x8), (3, .int (0 : Int32)), (0, .ref h_p0), (1, .int v1), (2, .int v2)]) hx hb dX10_isSame_51 hl (k := 4) rfl (by rw [ex8]; rfl) (by decide) rfl (fun ls hl => ?_)
          refine lv_goto (tgt := 5) hx hb dX10_isSame_54 (by decide) ?_
          exact ih _ _ hw _ _ _ hP hD hS (lv_sub hl [2, 3, 4, 1, 0] rfl)
        · have hw := hw.2 c7
          refine lv_iconst (v := 1) hx hb dX10_isSame_45 (by decide) ?_
          refine lv_goto (tgt := 50) hx hb dX10_isSame_46 (by decide) ?_
          refine lv_istore_n (lv' := [(3, .int (1 : Int32)), (0, .ref h_p0), (1, .int v1), (2, .int v2), (4, .int v4)]) hx hb dX10_isSame_50 rfl hl (by decide) rfl (fun ls hl => ?_)
          obtain ⟨x9, ex9⟩ : ∃ y : Int32, y = v4 + (1 : Int32) := ⟨_, rfl⟩
          have hw := hw x9 ex9
          refine lv_iinc (v := x9) (lv' := [(4, .int x9), (3, .int (1 : Int32)), (0, .ref h_p0), (1, .int v1), (2, .int v2)]) hx hb dX10_isSame_51 hl (k := 4) rfl (by rw [ex9]; rfl) (by decide) rfl (fun ls hl => ?_)
          refine lv_goto (tgt := 5) hx hb dX10_isSame_54 (by decide) ?_
          exact ih _ _ hw _ _ _ hP hD hS (lv_sub hl [2, 3, 4, 1, 0] rfl)
set_option maxHeartbeats 4000000 in
set_option maxRecDepth 100000 in
theorem c_X10_isSame {l : Launch} {dC : Nat → ClassId} {dI : Nat → Nat → Nat} {sz : Nat} {cI cJ cZ : ClassId} {h_p0 : Nat} {ad_p0 : Nat → Nat} {p0_places : Int32} {p0_steps : Int32} {p0_pastFirst : Int32} {p0_past : Int32} {p0_goings : Int32} {p0_rowSize : Int32} {p0_ways : Int32} {p0_hasField : Int32} {p0_fieldSize : Int32} {p0_faultNow : Int32} {p0_hasTree : Int32} {p0_treeSize : Int32} {p0_weightCount : Int32} {p0_roundCount : Int32} {p0_setCount : Int32} {p0_nodes : Nat → Int32} {a1 : Int32} {a2 : Int32} {post : Int32 → Prop} (hw : w_X10_isSame p0_places p0_nodes a1 a2 post) : Met l yX10_isSame wsX10_isSame ({ frames := 0, cells := 0, slots := 0, locals := 0 }) (va_Pc [.ref h_p0, .int a1, .int a2] (xPre (dC, dI) cI cJ cZ (wld_X10_isSame cI cJ cZ h_p0 ad_p0 p0_places p0_steps p0_pastFirst p0_past p0_goings p0_rowSize p0_ways p0_hasField p0_fieldSize p0_faultNow p0_hasTree p0_treeSize p0_weightCount p0_roundCount p0_setCount p0_nodes) sz)) (q_X10_isSame dC dI cI cJ cZ h_p0 ad_p0 p0_places p0_steps p0_pastFirst p0_past p0_goings p0_rowSize p0_ways p0_hasField p0_fieldSize p0_faultNow p0_hasTree p0_treeSize p0_weightCount p0_roundCount p0_setCount p0_nodes post (va_A (wld_X10_isSame cI cJ cZ h_p0 ad_p0 p0_places p0_steps p0_pastFirst p0_past p0_goings p0_rowSize p0_ways p0_hasField p0_fieldSize p0_faultNow p0_hasTree p0_treeSize p0_weightCount p0_roundCount p0_setCount p0_nodes) sz)) 0 0 (va_A (wld_X10_isSame cI cJ cZ h_p0 ad_p0 p0_places p0_steps p0_pastFirst p0_past p0_goings p0_rowSize p0_ways p0_hasField p0_fieldSize p0_faultNow p0_hasTree p0_treeSize p0_weightCount p0_roundCount p0_setCount p0_nodes) sz) := by
  refine x_met (cc := cX10_isSame) (maxL := 5) (ret := (some .boolean)) (own := RX10) (Qc := fun A => (q_X10_isSame dC dI cI cJ cZ h_p0 ad_p0 p0_places p0_steps p0_pastFirst p0_past p0_goings p0_rowSize p0_ways p0_hasField p0_fieldSize p0_faultNow p0_hasTree p0_treeSize p0_weightCount p0_roundCount p0_setCount p0_nodes post A)) (by decide) rfl rfl (Nat.le_of_ble_eq_true rfl) ?_
  intro p e s m args below meth c A ls E0 hP hD hS hl
  obtain ⟨hx, hb, hr, hml, hown, hts, hlocks, hK, hA, n1, n2⟩ := id E0
  have iX10 : ∀ w ∈ u_ws RX10 TX10 50, w ∈ wsX10_isSame := fun w h => List.mem_cons_of_mem _ (List.mem_append_right _ h)
  have hS0 := hS
  have hl : lv_has ls 5 [(0, .ref h_p0), (1, .int a1), (2, .int a2)] := hl
  unfold w_X10_isSame at hw
  obtain ⟨H, hH⟩ : ∃ H, H = s.heap := ⟨_, rfl⟩
  have hS : va_S A s.heap H [] := by rw [hH]; exact hS
  have hP : va_P (dC, dI) vwCl (wld_X10_isSame cI cJ cZ h_p0 ad_p0 p0_places p0_steps p0_pastFirst p0_past p0_goings p0_rowSize p0_ways p0_hasField p0_fieldSize p0_faultNow p0_hasTree p0_treeSize p0_weightCount p0_roundCount p0_setCount p0_nodes) H := by rw [hH]; exact hP
  suffices hG : W p l e ({ frames := 0, cells := 0, slots := 0, locals := 0 }) s m args below meth c H [] 0 0 (MQ below (q_X10_isSame dC dI cI cJ cZ h_p0 ad_p0 p0_places p0_steps p0_pastFirst p0_past p0_goings p0_rowSize p0_ways p0_hasField p0_fieldSize p0_faultNow p0_hasTree p0_treeSize p0_weightCount p0_roundCount p0_setCount p0_nodes post A) args s 0 0 A) (F0 m 0 ls []) by rw [hH] at hG; exact hG
  clear hH
  refine lv_iconst (v := 1) hx hb dX10_isSame_0 (by decide) ?_
  refine lv_istore_n (lv' := [(3, .int (1 : Int32)), (0, .ref h_p0), (1, .int a1), (2, .int a2)]) hx hb dX10_isSame_1 rfl hl (by decide) rfl (fun ls hl => ?_)
  refine lv_iconst (v := 0) hx hb dX10_isSame_2 (by decide) ?_
  refine lv_istore (lv' := [(4, .int (0 : Int32)), (3, .int (1 : Int32)), (0, .ref h_p0), (1, .int a1), (2, .int a2)]) hx hb dX10_isSame_3 hl (by decide) rfl (fun ls hl => ?_)
  obtain ⟨n10, hw⟩ := hw
  refine c_X10_isSame_L5 (l := l)  E0 ?_ n10 _ _ hw _ _ _ hP hD hS (lv_sub hl [2, 3, 4, 1, 0] rfl)
  · intro v11 v12 H locs ls hw hP hD hS hl
    have hP : va_P (dC, dI) vwCl (wld_X10_isSame cI cJ cZ h_p0 ad_p0 p0_places p0_steps p0_pastFirst p0_past p0_goings p0_rowSize p0_ways p0_hasField p0_fieldSize p0_faultNow p0_hasTree p0_treeSize p0_weightCount p0_roundCount p0_setCount p0_nodes) H := hP
    have hD : va_D A (wld_X10_isSame cI cJ cZ h_p0 ad_p0 p0_places p0_steps p0_pastFirst p0_past p0_goings p0_rowSize p0_ways p0_hasField p0_fieldSize p0_faultNow p0_hasTree p0_treeSize p0_weightCount p0_roundCount p0_setCount p0_nodes) := hD
    refine lv_iload_n hx hb dX10_isSame_57 rfl (lv_at hl 0 rfl) ?_
    have hv := hw.1
    have hw := hw.2
    exact x_zret (w1 := fun (u : Unit) => (wld_X10_isSame cI cJ cZ h_p0 ad_p0 p0_places p0_steps p0_pastFirst p0_past p0_goings p0_rowSize p0_ways p0_hasField p0_fieldSize p0_faultNow p0_hasTree p0_treeSize p0_weightCount p0_roundCount p0_setCount p0_nodes)) hx hb hr hlocks hv () hw hP hD hS dX10_isSame_58
abbrev wld_X10_isTwice (cI cJ cZ : ClassId) (h_p0 : Nat) (ad_p0 : Nat → Nat) (p0_places : Int32) (p0_steps : Int32) (p0_pastFirst : Int32) (p0_past : Int32) (p0_goings : Int32) (p0_rowSize : Int32) (p0_ways : Int32) (p0_hasField : Int32) (p0_fieldSize : Int32) (p0_faultNow : Int32) (p0_hasTree : Int32) (p0_treeSize : Int32) (p0_weightCount : Int32) (p0_roundCount : Int32) (p0_setCount : Int32) (p0_nodes : Nat → Int32) : va_W := [(h_p0, .inr (10, [.int p0_places, .int p0_steps, .ref (ad_p0 2), .ref (ad_p0 3), .ref (ad_p0 4), .ref (ad_p0 5), .ref (ad_p0 6), .ref (ad_p0 7), .ref (ad_p0 8), .ref (ad_p0 9), .ref (ad_p0 10), .ref (ad_p0 11), .ref (ad_p0 12), .ref (ad_p0 13), .ref (ad_p0 14), .int p0_pastFirst, .int p0_past, .int p0_goings, .int p0_rowSize, .ref (ad_p0 19), .ref (ad_p0 20), .int p0_ways, .ref (ad_p0 22), .ref (ad_p0 23), .int p0_hasField, .int p0_fieldSize, .ref (ad_p0 26), .ref (ad_p0 27), .ref (ad_p0 28), .ref (ad_p0 29), .ref (ad_p0 30), .ref (ad_p0 31), .ref (ad_p0 32), .int p0_faultNow, .int p0_hasTree, .int p0_treeSize, .ref (ad_p0 36), .ref (ad_p0 37), .ref (ad_p0 38), .ref (ad_p0 39), .ref (ad_p0 40), .ref (ad_p0 41), .ref (ad_p0 42), .int p0_weightCount, .ref (ad_p0 44), .int p0_roundCount, .ref (ad_p0 46), .int p0_setCount, .ref (ad_p0 48), .ref (ad_p0 49)])), ((ad_p0 36), .inl (cI, 32000, .inl p0_nodes))]
abbrev q_X10_isTwice (dC : Nat → ClassId) (dI : Nat → Nat → Nat) (cI cJ cZ : ClassId) (h_p0 : Nat) (ad_p0 : Nat → Nat) (p0_places : Int32) (p0_steps : Int32) (p0_pastFirst : Int32) (p0_past : Int32) (p0_goings : Int32) (p0_rowSize : Int32) (p0_ways : Int32) (p0_hasField : Int32) (p0_fieldSize : Int32) (p0_faultNow : Int32) (p0_hasTree : Int32) (p0_treeSize : Int32) (p0_weightCount : Int32) (p0_roundCount : Int32) (p0_setCount : Int32) (p0_nodes : Nat → Int32) (post : Int32 → Prop) (A : Nat → Prop) : Array Value → State → Outcome → State → Prop := va_Qi (fun r (u : Unit) => post r ) (fun (u : Unit) t => xPost (dC, dI) A (wld_X10_isTwice cI cJ cZ h_p0 ad_p0 p0_places p0_steps p0_pastFirst p0_past p0_goings p0_rowSize p0_ways p0_hasField p0_fieldSize p0_faultNow p0_hasTree p0_treeSize p0_weightCount p0_roundCount p0_setCount p0_nodes) t) A
def w_X10_isTwice_L4b (v1 : Int32) (p0_places : Int32) (p0_nodes : Nat → Int32) (post : Int32 → Prop) (K : (Int32) → (Int32) → Prop) (rec : (Int32) → (Int32) → Prop) (v2 : Int32) (v3 : Int32) : Prop :=
    (v1 ≤ v3 →
      K v2 v3) ∧
    (¬ v1 ≤ v3 →
      (¬ v2 = 0 →
        ∀ x5 : Int32, x5 = v3 + (1 : Int32) →
        rec (1 : Int32) x5) ∧
      (v2 = 0 →
        w_X10_isSame p0_places p0_nodes v3 v1 (fun r6 =>
        (r6 = 0 →
          ∀ x9 : Int32, x9 = v3 + (1 : Int32) →
          rec (0 : Int32) x9) ∧
        (¬ r6 = 0 →
          ∀ x10 : Int32, x10 = v3 + (1 : Int32) →
          rec (1 : Int32) x10))))
def w_X10_isTwice_L4 (v1 : Int32) (p0_places : Int32) (p0_nodes : Nat → Int32) (post : Int32 → Prop) (K : (Int32) → (Int32) → Prop) : Nat → (Int32) → (Int32) → Prop
  | 0, _, _ => False
  | n + 1, v2, v3 => w_X10_isTwice_L4b v1 p0_places p0_nodes post K (w_X10_isTwice_L4 v1 p0_places p0_nodes post K n) v2 v3
def w_X10_isTwice (p0_places : Int32) (p0_nodes : Nat → Int32) (a1 : Int32) (post : Int32 → Prop) : Prop :=
  ∃ n : Nat, w_X10_isTwice_L4 a1 p0_places p0_nodes post (fun v12 v13 =>
      v12 &&& 1 = v12 ∧
      (post v12)) n (0 : Int32) (0 : Int32)
set_option maxHeartbeats 4000000 in
set_option maxRecDepth 100000 in
theorem c_X10_isTwice_L4 {p : Program} {l : Launch} {e : Env} {s : State} {m : MethodId} {args : Array Value} {below : List Frame} {meth : Method} {c : Code} {dC : Nat → ClassId} {dI : Nat → Nat → Nat} {A : Nat → Prop} {cI cJ cZ : ClassId} {h_p0 : Nat} {ad_p0 : Nat → Nat} {p0_places : Int32} {p0_steps : Int32} {p0_pastFirst : Int32} {p0_past : Int32} {p0_goings : Int32} {p0_rowSize : Int32} {p0_ways : Int32} {p0_hasField : Int32} {p0_fieldSize : Int32} {p0_faultNow : Int32} {p0_hasTree : Int32} {p0_treeSize : Int32} {p0_weightCount : Int32} {p0_roundCount : Int32} {p0_setCount : Int32} {p0_nodes : Nat → Int32} {v1 : Int32}  {post : Int32 → Prop} {K : (Int32) → (Int32) → Prop} (E0 : xEnv p s m args meth c cX10_isTwice (some .boolean) 4 RX10 wsX10_isTwice (dC, dI) cI cJ cZ A) (hk : ∀ (v2 : Int32) (v3 : Int32) (H : Heap) (locs : List Loc) (ls : Array Slot), K v2 v3 → va_P (dC, dI) vwCl (wld_X10_isTwice cI cJ cZ h_p0 ad_p0 p0_places p0_steps p0_pastFirst p0_past p0_goings p0_rowSize p0_ways p0_hasField p0_fieldSize p0_faultNow p0_hasTree p0_treeSize p0_weightCount p0_roundCount p0_setCount p0_nodes) H → va_D A (wld_X10_isTwice cI cJ cZ h_p0 ad_p0 p0_places p0_steps p0_pastFirst p0_past p0_goings p0_rowSize p0_ways p0_hasField p0_fieldSize p0_faultNow p0_hasTree p0_treeSize p0_weightCount p0_roundCount p0_setCount p0_nodes) → va_S A s.heap H locs → lv_has ls 4 [(2, .int v2)] → W p l e ({ frames := 1, cells := 0, slots := 0, locals := 24 }) s m args below meth c H locs 0 0 (MQ below (q_X10_isTwice dC dI cI cJ cZ h_p0 ad_p0 p0_places p0_steps p0_pastFirst p0_past p0_goings p0_rowSize p0_ways p0_hasField p0_fieldSize p0_faultNow p0_hasTree p0_treeSize p0_weightCount p0_roundCount p0_setCount p0_nodes post A) args s 0 0 A) (F0 m 34 ls [])) : ∀ (n : Nat) (v2 : Int32) (v3 : Int32), w_X10_isTwice_L4 v1 p0_places p0_nodes post K n v2 v3 → ∀ (H : Heap) (locs : List Loc) (ls : Array Slot), va_P (dC, dI) vwCl (wld_X10_isTwice cI cJ cZ h_p0 ad_p0 p0_places p0_steps p0_pastFirst p0_past p0_goings p0_rowSize p0_ways p0_hasField p0_fieldSize p0_faultNow p0_hasTree p0_treeSize p0_weightCount p0_roundCount p0_setCount p0_nodes) H → va_D A (wld_X10_isTwice cI cJ cZ h_p0 ad_p0 p0_places p0_steps p0_pastFirst p0_past p0_goings p0_rowSize p0_ways p0_hasField p0_fieldSize p0_faultNow p0_hasTree p0_treeSize p0_weightCount p0_roundCount p0_setCount p0_nodes) → va_S A s.heap H locs → lv_has ls 4 [(0, .ref h_p0), (1, .int v1), (2, .int v2), (3, .int v3)] → W p l e ({ frames := 1, cells := 0, slots := 0, locals := 24 }) s m args below meth c H locs 0 0 (MQ below (q_X10_isTwice dC dI cI cJ cZ h_p0 ad_p0 p0_places p0_steps p0_pastFirst p0_past p0_goings p0_rowSize p0_ways p0_hasField p0_fieldSize p0_faultNow p0_hasTree p0_treeSize p0_weightCount p0_roundCount p0_setCount p0_nodes post A) args s 0 0 A) (F0 m 4 ls []) := by
  obtain ⟨hx, hb, hr, hml, hown, hts, hlocks, hK, hA, n1, n2⟩ := id E0
  have iX10 : ∀ w ∈ u_ws RX10 TX10 50, w ∈ wsX10_isTwice := fun w h => List.mem_cons_of_mem _ (List.mem_append_right _ h)
  intro n
  induction n with
  | zero => intro v2 v3 hw; exact hw.elim
  | succ n ih =>
    intro v2 v3 hw H locs ls hP hD hS hl
    have hw : w_X10_isTwice_L4b v1 p0_places p0_nodes post K (w_X10_isTwice_L4 v1 p0_places p0_nodes post K n) v2 v3 := hw
    unfold w_X10_isTwice_L4b at hw
    refine lv_iload_n hx hb dX10_isTwice_4 rfl (lv_at hl 3 rfl) ?_
    refine lv_iload_n hx hb dX10_isTwice_5 rfl (lv_at hl 1 rfl) ?_
    refine lv_icmp_ge (tgt := 34) hx hb dX10_isTwice_6 (by decide) (fun c1 => ?_) (fun c2 => ?_)
    · have hw := hw.1 c1
      exact hk _ _ _ _ _ hw hP hD hS (lv_sub hl [2] rfl)
    · have hw := hw.2 c2
      refine lv_iload_n hx hb dX10_isTwice_9 rfl (lv_at hl 2 rfl) ?_
      refine lv_if_ne (tgt := 22) hx hb dX10_isTwice_10 (by decide) (fun c3 => ?_) (fun c4 => ?_)
      · have hw := hw.1 c3
        refine lv_iconst (v := 1) hx hb dX10_isTwice_22 (by decide) ?_
        refine lv_goto (tgt := 27) hx hb dX10_isTwice_23 (by decide) ?_
        refine lv_istore_n (lv' := [(2, .int (1 : Int32)), (0, .ref h_p0), (1, .int v1), (3, .int v3)]) hx hb dX10_isTwice_27 rfl hl (by decide) rfl (fun ls hl => ?_)
        obtain ⟨x5, ex5⟩ : ∃ y : Int32, y = v3 + (1 : Int32) := ⟨_, rfl⟩
        have hw := hw x5 ex5
        refine lv_iinc (v := x5) (lv' := [(3, .int x5), (2, .int (1 : Int32)), (0, .ref h_p0), (1, .int v1)]) hx hb dX10_isTwice_28 hl (k := 3) rfl (by rw [ex5]; rfl) (by decide) rfl (fun ls hl => ?_)
        refine lv_goto (tgt := 4) hx hb dX10_isTwice_31 (by decide) ?_
        exact ih _ _ hw _ _ _ hP hD hS (lv_sub hl [2, 3, 1, 0] rfl)
      · have hw := hw.2 c4
        refine lv_aload_n hx hb dX10_isTwice_13 rfl (lv_at hl 0 rfl) ?_
        refine lv_iload_n hx hb dX10_isTwice_14 rfl (lv_at hl 3 rfl) ?_
        refine lv_iload_n hx hb dX10_isTwice_15 rfl (lv_at hl 1 rfl) ?_
        obtain ⟨hPc, hDc⟩ := x_sub (wc := (wld_X10_isSame cI cJ cZ h_p0 ad_p0 p0_places p0_steps p0_pastFirst p0_past p0_goings p0_rowSize p0_ways p0_hasField p0_fieldSize p0_faultNow p0_hasTree p0_treeSize p0_weightCount p0_roundCount p0_setCount p0_nodes)) hP hD [0, 1] (n := 2) rfl rfl (by decide +kernel)
        refine x_calli (ws' := fun (u : Unit) => (wld_X10_isTwice cI cJ cZ h_p0 ad_p0 p0_places p0_steps p0_pastFirst p0_past p0_goings p0_rowSize p0_ways p0_hasField p0_fieldSize p0_faultNow p0_hasTree p0_treeSize p0_weightCount p0_roundCount p0_setCount p0_nodes)) hP hD hS hA [0, 1] [] [0, 1] (n := 2) (k := 2) rfl (fun _ => rfl) rfl (by decide +kernel) (fun _ => rfl) (va_runV (As := [.int v3, .int v1]) (rest := []) ⟨hx, hb, hml, hown, hts⟩ (c_X10_isSame (l := l) (dC := dC) (dI := dI) (cI := cI) (cJ := cJ) (cZ := cZ) (sz := H.size) (h_p0 := h_p0) (ad_p0 := ad_p0) (p0_places := p0_places) (p0_steps := p0_steps) (p0_pastFirst := p0_pastFirst) (p0_past := p0_past) (p0_goings := p0_goings) (p0_rowSize := p0_rowSize) (p0_ways := p0_ways) (p0_hasField := p0_hasField) (p0_fieldSize := p0_fieldSize) (p0_faultNow := p0_faultNow) (p0_hasTree := p0_hasTree) (p0_treeSize := p0_treeSize) (p0_weightCount := p0_weightCount) (p0_roundCount := p0_roundCount) (p0_setCount := p0_setCount) (p0_nodes := p0_nodes) hw) (cwV 2 hts gX10_isTwice_X10_isSame rfl rfl rfl (by decide +kernel) ⟨Nat.le_of_ble_eq_true rfl, Nat.le_of_ble_eq_true rfl⟩) ⟨xPre_blind, va_recv hK hP (ci := 10) (q0 := 0) rfl rfl, xPre_at hK hPc hDc n1 n2⟩ rfl rfl hl.1 rfl (lv_room (Nat.le_of_ble_eq_true rfl)) dX10_isTwice_16 ⟨Nat.zero_le _, Nat.zero_le _⟩) (fun r6 u H locs hw hP hD hS => ?_)
        try dsimp only at hw
        have hP : va_P (dC, dI) vwCl (wld_X10_isTwice cI cJ cZ h_p0 ad_p0 p0_places p0_steps p0_pastFirst p0_past p0_goings p0_rowSize p0_ways p0_hasField p0_fieldSize p0_faultNow p0_hasTree p0_treeSize p0_weightCount p0_roundCount p0_setCount p0_nodes) H := hP
        have hD : va_D A (wld_X10_isTwice cI cJ cZ h_p0 ad_p0 p0_places p0_steps p0_pastFirst p0_past p0_goings p0_rowSize p0_ways p0_hasField p0_fieldSize p0_faultNow p0_hasTree p0_treeSize p0_weightCount p0_roundCount p0_setCount p0_nodes) := hD
        refine lv_if_eq (tgt := 26) hx hb dX10_isTwice_19 (by decide) (fun c7 => ?_) (fun c8 => ?_)
        · have hw := hw.1 c7
          refine lv_iconst (v := 0) hx hb dX10_isTwice_26 (by decide) ?_
          refine lv_istore_n (lv' := [(2, .int (0 : Int32)), (0, .ref h_p0), (1, .int v1), (3, .int v3)]) hx hb dX10_isTwice_27 rfl hl (by decide) rfl (fun ls hl => ?_)
          obtain ⟨x9, ex9⟩ : ∃ y : Int32, y = v3 + (1 : Int32) := ⟨_, rfl⟩
          have hw := hw x9 ex9
          refine lv_iinc (v := x9) (lv' := [(3, .int x9), (2, .int (0 : Int32)), (0, .ref h_p0), (1, .int v1)]) hx hb dX10_isTwice_28 hl (k := 3) rfl (by rw [ex9]; rfl) (by decide) rfl (fun ls hl => ?_)
          refine lv_goto (tgt := 4) hx hb dX10_isTwice_31 (by decide) ?_
          exact ih _ _ hw _ _ _ hP hD hS (lv_sub hl [2, 3, 1, 0] rfl)
        · have hw := hw.2 c8
          refine lv_iconst (v := 1) hx hb dX10_isTwice_22 (by decide) ?_
          refine lv_goto (tgt := 27) hx hb dX10_isTwice_23 (by decide) ?_
          refine lv_istore_n (lv' := [(2, .int (1 : Int32)), (0, .ref h_p0), (1, .int v1), (3, .int v3)]) hx hb dX10_isTwice_27 rfl hl (by decide) rfl (fun ls hl => ?_)
          obtain ⟨x10, ex10⟩ : ∃ y : Int32, y = v3 + (1 : Int32) := ⟨_, rfl⟩
          have hw := hw x10 ex10
          refine lv_iinc (v := x10) (lv' := [(3, .int x10), (2, .int (1 : Int32)), (0, .ref h_p0), (1, .int v1)]) hx hb dX10_isTwice_28 hl (k := 3) rfl (by rw [ex10]; rfl) (by decide) rfl (fun ls hl => ?_)
          refine lv_goto (tgt := 4) hx hb dX10_isTwice_31 (by decide) ?_
          exact ih _ _ hw _ _ _ hP hD hS (lv_sub hl [2, 3, 1, 0] rfl)
set_option maxHeartbeats 4000000 in
set_option maxRecDepth 100000 in
theorem c_X10_isTwice {l : Launch} {dC : Nat → ClassId} {dI : Nat → Nat → Nat} {sz : Nat} {cI cJ cZ : ClassId} {h_p0 : Nat} {ad_p0 : Nat → Nat} {p0_places : Int32} {p0_steps : Int32} {p0_pastFirst : Int32} {p0_past : Int32} {p0_goings : Int32} {p0_rowSize : Int32} {p0_ways : Int32} {p0_hasField : Int32} {p0_fieldSize : Int32} {p0_faultNow : Int32} {p0_hasTree : Int32} {p0_treeSize : Int32} {p0_weightCount : Int32} {p0_roundCount : Int32} {p0_setCount : Int32} {p0_nodes : Nat → Int32} {a1 : Int32} {post : Int32 → Prop} (hw : w_X10_isTwice p0_places p0_nodes a1 post) : Met l yX10_isTwice wsX10_isTwice ({ frames := 1, cells := 0, slots := 0, locals := 24 }) (va_Pc [.ref h_p0, .int a1] (xPre (dC, dI) cI cJ cZ (wld_X10_isTwice cI cJ cZ h_p0 ad_p0 p0_places p0_steps p0_pastFirst p0_past p0_goings p0_rowSize p0_ways p0_hasField p0_fieldSize p0_faultNow p0_hasTree p0_treeSize p0_weightCount p0_roundCount p0_setCount p0_nodes) sz)) (q_X10_isTwice dC dI cI cJ cZ h_p0 ad_p0 p0_places p0_steps p0_pastFirst p0_past p0_goings p0_rowSize p0_ways p0_hasField p0_fieldSize p0_faultNow p0_hasTree p0_treeSize p0_weightCount p0_roundCount p0_setCount p0_nodes post (va_A (wld_X10_isTwice cI cJ cZ h_p0 ad_p0 p0_places p0_steps p0_pastFirst p0_past p0_goings p0_rowSize p0_ways p0_hasField p0_fieldSize p0_faultNow p0_hasTree p0_treeSize p0_weightCount p0_roundCount p0_setCount p0_nodes) sz)) 0 0 (va_A (wld_X10_isTwice cI cJ cZ h_p0 ad_p0 p0_places p0_steps p0_pastFirst p0_past p0_goings p0_rowSize p0_ways p0_hasField p0_fieldSize p0_faultNow p0_hasTree p0_treeSize p0_weightCount p0_roundCount p0_setCount p0_nodes) sz) := by
  refine x_met (cc := cX10_isTwice) (maxL := 4) (ret := (some .boolean)) (own := RX10) (Qc := fun A => (q_X10_isTwice dC dI cI cJ cZ h_p0 ad_p0 p0_places p0_steps p0_pastFirst p0_past p0_goings p0_rowSize p0_ways p0_hasField p0_fieldSize p0_faultNow p0_hasTree p0_treeSize p0_weightCount p0_roundCount p0_setCount p0_nodes post A)) (by decide) rfl rfl (Nat.le_of_ble_eq_true rfl) ?_
  intro p e s m args below meth c A ls E0 hP hD hS hl
  obtain ⟨hx, hb, hr, hml, hown, hts, hlocks, hK, hA, n1, n2⟩ := id E0
  have iX10 : ∀ w ∈ u_ws RX10 TX10 50, w ∈ wsX10_isTwice := fun w h => List.mem_cons_of_mem _ (List.mem_append_right _ h)
  have hS0 := hS
  have hl : lv_has ls 4 [(0, .ref h_p0), (1, .int a1)] := hl
  unfold w_X10_isTwice at hw
  obtain ⟨H, hH⟩ : ∃ H, H = s.heap := ⟨_, rfl⟩
  have hS : va_S A s.heap H [] := by rw [hH]; exact hS
  have hP : va_P (dC, dI) vwCl (wld_X10_isTwice cI cJ cZ h_p0 ad_p0 p0_places p0_steps p0_pastFirst p0_past p0_goings p0_rowSize p0_ways p0_hasField p0_fieldSize p0_faultNow p0_hasTree p0_treeSize p0_weightCount p0_roundCount p0_setCount p0_nodes) H := by rw [hH]; exact hP
  suffices hG : W p l e ({ frames := 1, cells := 0, slots := 0, locals := 24 }) s m args below meth c H [] 0 0 (MQ below (q_X10_isTwice dC dI cI cJ cZ h_p0 ad_p0 p0_places p0_steps p0_pastFirst p0_past p0_goings p0_rowSize p0_ways p0_hasField p0_fieldSize p0_faultNow p0_hasTree p0_treeSize p0_weightCount p0_roundCount p0_setCount p0_nodes post A) args s 0 0 A) (F0 m 0 ls []) by rw [hH] at hG; exact hG
  clear hH
  refine lv_iconst (v := 0) hx hb dX10_isTwice_0 (by decide) ?_
  refine lv_istore_n (lv' := [(2, .int (0 : Int32)), (0, .ref h_p0), (1, .int a1)]) hx hb dX10_isTwice_1 rfl hl (by decide) rfl (fun ls hl => ?_)
  refine lv_iconst (v := 0) hx hb dX10_isTwice_2 (by decide) ?_
  refine lv_istore_n (lv' := [(3, .int (0 : Int32)), (2, .int (0 : Int32)), (0, .ref h_p0), (1, .int a1)]) hx hb dX10_isTwice_3 rfl hl (by decide) rfl (fun ls hl => ?_)
  obtain ⟨n11, hw⟩ := hw
  refine c_X10_isTwice_L4 (l := l)  E0 ?_ n11 _ _ hw _ _ _ hP hD hS (lv_sub hl [2, 3, 1, 0] rfl)
  · intro v12 v13 H locs ls hw hP hD hS hl
    have hP : va_P (dC, dI) vwCl (wld_X10_isTwice cI cJ cZ h_p0 ad_p0 p0_places p0_steps p0_pastFirst p0_past p0_goings p0_rowSize p0_ways p0_hasField p0_fieldSize p0_faultNow p0_hasTree p0_treeSize p0_weightCount p0_roundCount p0_setCount p0_nodes) H := hP
    have hD : va_D A (wld_X10_isTwice cI cJ cZ h_p0 ad_p0 p0_places p0_steps p0_pastFirst p0_past p0_goings p0_rowSize p0_ways p0_hasField p0_fieldSize p0_faultNow p0_hasTree p0_treeSize p0_weightCount p0_roundCount p0_setCount p0_nodes) := hD
    refine lv_iload_n hx hb dX10_isTwice_34 rfl (lv_at hl 0 rfl) ?_
    have hv := hw.1
    have hw := hw.2
    exact x_zret (w1 := fun (u : Unit) => (wld_X10_isTwice cI cJ cZ h_p0 ad_p0 p0_places p0_steps p0_pastFirst p0_past p0_goings p0_rowSize p0_ways p0_hasField p0_fieldSize p0_faultNow p0_hasTree p0_treeSize p0_weightCount p0_roundCount p0_setCount p0_nodes)) hx hb hr hlocks hv () hw hP hD hS dX10_isTwice_35
abbrev wld_X10_isPlainNet (cI cJ cZ : ClassId) (h_p0 : Nat) (ad_p0 : Nat → Nat) (p0_places : Int32) (p0_steps : Int32) (p0_pastFirst : Int32) (p0_past : Int32) (p0_goings : Int32) (p0_rowSize : Int32) (p0_ways : Int32) (p0_hasField : Int32) (p0_fieldSize : Int32) (p0_faultNow : Int32) (p0_hasTree : Int32) (p0_treeSize : Int32) (p0_weightCount : Int32) (p0_roundCount : Int32) (p0_setCount : Int32) (p0_colour : Nat → Int32) (p0_sort : Nat → Int32) : va_W := [(h_p0, .inr (10, [.int p0_places, .int p0_steps, .ref (ad_p0 2), .ref (ad_p0 3), .ref (ad_p0 4), .ref (ad_p0 5), .ref (ad_p0 6), .ref (ad_p0 7), .ref (ad_p0 8), .ref (ad_p0 9), .ref (ad_p0 10), .ref (ad_p0 11), .ref (ad_p0 12), .ref (ad_p0 13), .ref (ad_p0 14), .int p0_pastFirst, .int p0_past, .int p0_goings, .int p0_rowSize, .ref (ad_p0 19), .ref (ad_p0 20), .int p0_ways, .ref (ad_p0 22), .ref (ad_p0 23), .int p0_hasField, .int p0_fieldSize, .ref (ad_p0 26), .ref (ad_p0 27), .ref (ad_p0 28), .ref (ad_p0 29), .ref (ad_p0 30), .ref (ad_p0 31), .ref (ad_p0 32), .int p0_faultNow, .int p0_hasTree, .int p0_treeSize, .ref (ad_p0 36), .ref (ad_p0 37), .ref (ad_p0 38), .ref (ad_p0 39), .ref (ad_p0 40), .ref (ad_p0 41), .ref (ad_p0 42), .int p0_weightCount, .ref (ad_p0 44), .int p0_roundCount, .ref (ad_p0 46), .int p0_setCount, .ref (ad_p0 48), .ref (ad_p0 49)])), ((ad_p0 2), .inl (cI, 16, .inl p0_colour)), ((ad_p0 3), .inl (cI, 16, .inl p0_sort))]
abbrev q_X10_isPlainNet (dC : Nat → ClassId) (dI : Nat → Nat → Nat) (cI cJ cZ : ClassId) (h_p0 : Nat) (ad_p0 : Nat → Nat) (p0_places : Int32) (p0_steps : Int32) (p0_pastFirst : Int32) (p0_past : Int32) (p0_goings : Int32) (p0_rowSize : Int32) (p0_ways : Int32) (p0_hasField : Int32) (p0_fieldSize : Int32) (p0_faultNow : Int32) (p0_hasTree : Int32) (p0_treeSize : Int32) (p0_weightCount : Int32) (p0_roundCount : Int32) (p0_setCount : Int32) (p0_colour : Nat → Int32) (p0_sort : Nat → Int32) (post : Int32 → Prop) (A : Nat → Prop) : Array Value → State → Outcome → State → Prop := va_Qi (fun r (u : Unit) => post r ) (fun (u : Unit) t => xPost (dC, dI) A (wld_X10_isPlainNet cI cJ cZ h_p0 ad_p0 p0_places p0_steps p0_pastFirst p0_past p0_goings p0_rowSize p0_ways p0_hasField p0_fieldSize p0_faultNow p0_hasTree p0_treeSize p0_weightCount p0_roundCount p0_setCount p0_colour p0_sort) t) A
def w_X10_isPlainNet_L15b (p0_places : Int32) (p0_steps : Int32) (p0_colour : Nat → Int32) (p0_sort : Nat → Int32) (post : Int32 → Prop) (K : (Int32) → (Int32) → Prop) (rec : (Int32) → (Int32) → Prop) (v1 : Int32) (v2 : Int32) : Prop :=
    (p0_steps ≤ v2 →
      K v1 v2) ∧
    (¬ p0_steps ≤ v2 →
      (v1 = 0 →
        ∀ x8 : Int32, x8 = v2 + (1 : Int32) →
        rec (0 : Int32) x8) ∧
      (¬ v1 = 0 →
        vp_in v2 16 ∧
        ((2 : Int32) ≤ (p0_sort v2.toNatClampNeg) →
          ∀ x11 : Int32, x11 = v2 + (1 : Int32) →
          rec (0 : Int32) x11) ∧
        (¬ (2 : Int32) ≤ (p0_sort v2.toNatClampNeg) →
          ∀ x12 : Int32, x12 = v2 + (1 : Int32) →
          rec (1 : Int32) x12)))
def w_X10_isPlainNet_L15 (p0_places : Int32) (p0_steps : Int32) (p0_colour : Nat → Int32) (p0_sort : Nat → Int32) (post : Int32 → Prop) (K : (Int32) → (Int32) → Prop) : Nat → (Int32) → (Int32) → Prop
  | 0, _, _ => False
  | n + 1, v1, v2 => w_X10_isPlainNet_L15b p0_places p0_steps p0_colour p0_sort post K (w_X10_isPlainNet_L15 p0_places p0_steps p0_colour p0_sort post K n) v1 v2
def w_X10_isPlainNet (p0_places : Int32) (p0_steps : Int32) (p0_colour : Nat → Int32) (p0_sort : Nat → Int32) (post : Int32 → Prop) : Prop :=
  w_X10_hasColour p0_places p0_colour (fun r1 =>
  (¬ r1 = 0 →
    ∃ n : Nat, w_X10_isPlainNet_L15 p0_places p0_steps p0_colour p0_sort post (fun v14 v15 =>
        v14 &&& 1 = v14 ∧
        (post v14)) n (0 : Int32) (0 : Int32)) ∧
  (r1 = 0 →
    ∃ n : Nat, w_X10_isPlainNet_L15 p0_places p0_steps p0_colour p0_sort post (fun v17 v18 =>
        v17 &&& 1 = v17 ∧
        (post v17)) n (1 : Int32) (0 : Int32)))
set_option maxHeartbeats 4000000 in
set_option maxRecDepth 100000 in
theorem c_X10_isPlainNet_L15 {p : Program} {l : Launch} {e : Env} {s : State} {m : MethodId} {args : Array Value} {below : List Frame} {meth : Method} {c : Code} {dC : Nat → ClassId} {dI : Nat → Nat → Nat} {A : Nat → Prop} {cI cJ cZ : ClassId} {h_p0 : Nat} {ad_p0 : Nat → Nat} {p0_places : Int32} {p0_steps : Int32} {p0_pastFirst : Int32} {p0_past : Int32} {p0_goings : Int32} {p0_rowSize : Int32} {p0_ways : Int32} {p0_hasField : Int32} {p0_fieldSize : Int32} {p0_faultNow : Int32} {p0_hasTree : Int32} {p0_treeSize : Int32} {p0_weightCount : Int32} {p0_roundCount : Int32} {p0_setCount : Int32} {p0_colour : Nat → Int32} {p0_sort : Nat → Int32}  {post : Int32 → Prop} {K : (Int32) → (Int32) → Prop} (E0 : xEnv p s m args meth c cX10_isPlainNet (some .boolean) 3 RX10 wsX10_isPlainNet (dC, dI) cI cJ cZ A) (hk : ∀ (v1 : Int32) (v2 : Int32) (H : Heap) (locs : List Loc) (ls : Array Slot), K v1 v2 → va_P (dC, dI) vwCl (wld_X10_isPlainNet cI cJ cZ h_p0 ad_p0 p0_places p0_steps p0_pastFirst p0_past p0_goings p0_rowSize p0_ways p0_hasField p0_fieldSize p0_faultNow p0_hasTree p0_treeSize p0_weightCount p0_roundCount p0_setCount p0_colour p0_sort) H → va_D A (wld_X10_isPlainNet cI cJ cZ h_p0 ad_p0 p0_places p0_steps p0_pastFirst p0_past p0_goings p0_rowSize p0_ways p0_hasField p0_fieldSize p0_faultNow p0_hasTree p0_treeSize p0_weightCount p0_roundCount p0_setCount p0_colour p0_sort) → va_S A s.heap H locs → lv_has ls 3 [(1, .int v1)] → W p l e ({ frames := 1, cells := 0, slots := 0, locals := 22 }) s m args below meth c H locs 0 0 (MQ below (q_X10_isPlainNet dC dI cI cJ cZ h_p0 ad_p0 p0_places p0_steps p0_pastFirst p0_past p0_goings p0_rowSize p0_ways p0_hasField p0_fieldSize p0_faultNow p0_hasTree p0_treeSize p0_weightCount p0_roundCount p0_setCount p0_colour p0_sort post A) args s 0 0 A) (F0 m 49 ls [])) : ∀ (n : Nat) (v1 : Int32) (v2 : Int32), w_X10_isPlainNet_L15 p0_places p0_steps p0_colour p0_sort post K n v1 v2 → ∀ (H : Heap) (locs : List Loc) (ls : Array Slot), va_P (dC, dI) vwCl (wld_X10_isPlainNet cI cJ cZ h_p0 ad_p0 p0_places p0_steps p0_pastFirst p0_past p0_goings p0_rowSize p0_ways p0_hasField p0_fieldSize p0_faultNow p0_hasTree p0_treeSize p0_weightCount p0_roundCount p0_setCount p0_colour p0_sort) H → va_D A (wld_X10_isPlainNet cI cJ cZ h_p0 ad_p0 p0_places p0_steps p0_pastFirst p0_past p0_goings p0_rowSize p0_ways p0_hasField p0_fieldSize p0_faultNow p0_hasTree p0_treeSize p0_weightCount p0_roundCount p0_setCount p0_colour p0_sort) → va_S A s.heap H locs → lv_has ls 3 [(0, .ref h_p0), (1, .int v1), (2, .int v2)] → W p l e ({ frames := 1, cells := 0, slots := 0, locals := 22 }) s m args below meth c H locs 0 0 (MQ below (q_X10_isPlainNet dC dI cI cJ cZ h_p0 ad_p0 p0_places p0_steps p0_pastFirst p0_past p0_goings p0_rowSize p0_ways p0_hasField p0_fieldSize p0_faultNow p0_hasTree p0_treeSize p0_weightCount p0_roundCount p0_setCount p0_colour p0_sort post A) args s 0 0 A) (F0 m 15 ls []) := by
  obtain ⟨hx, hb, hr, hml, hown, hts, hlocks, hK, hA, n1, n2⟩ := id E0
  have iX10 : ∀ w ∈ u_ws RX10 TX10 50, w ∈ wsX10_isPlainNet := fun w h => List.mem_cons_of_mem _ (List.mem_append_right _ h)
  intro n
  induction n with
  | zero => intro v1 v2 hw; exact hw.elim
  | succ n ih =>
    intro v1 v2 hw H locs ls hP hD hS hl
    have hw : w_X10_isPlainNet_L15b p0_places p0_steps p0_colour p0_sort post K (w_X10_isPlainNet_L15 p0_places p0_steps p0_colour p0_sort post K n) v1 v2 := hw
    unfold w_X10_isPlainNet_L15b at hw
    refine lv_iload_n hx hb dX10_isPlainNet_15 rfl (lv_at hl 2 rfl) ?_
    refine lv_aload_n hx hb dX10_isPlainNet_16 rfl (lv_at hl 0 rfl) ?_
    refine va_get (D := (dC, dI)) (ci := 10) (v := .int p0_steps) (C := RX10) (T := TX10) (N := 50) hx hb hts iX10 hown hK hP 0 rfl rfl 1 (by decide) (hts (.fieldLink RX10 130 "NetHouseModel" "steps" "I") (by decide +kernel)) (fun _ h9 => h9) rfl dX10_isPlainNet_17 ?_
    refine lv_icmp_ge (tgt := 49) hx hb dX10_isPlainNet_20 (by decide) (fun c4 => ?_) (fun c5 => ?_)
    · have hw := hw.1 c4
      exact hk _ _ _ _ _ hw hP hD hS (lv_sub hl [1] rfl)
    · have hw := hw.2 c5
      refine lv_iload_n hx hb dX10_isPlainNet_23 rfl (lv_at hl 1 rfl) ?_
      refine lv_if_eq (tgt := 41) hx hb dX10_isPlainNet_24 (by decide) (fun c6 => ?_) (fun c7 => ?_)
      · have hw := hw.1 c6
        refine lv_iconst (v := 0) hx hb dX10_isPlainNet_41 (by decide) ?_
        refine lv_istore_n (lv' := [(1, .int (0 : Int32)), (0, .ref h_p0), (2, .int v2)]) hx hb dX10_isPlainNet_42 rfl hl (by decide) rfl (fun ls hl => ?_)
        obtain ⟨x8, ex8⟩ : ∃ y : Int32, y = v2 + (1 : Int32) := ⟨_, rfl⟩
        have hw := hw x8 ex8
        refine lv_iinc (v := x8) (lv' := [(2, .int x8), (1, .int (0 : Int32)), (0, .ref h_p0)]) hx hb dX10_isPlainNet_43 hl (k := 2) rfl (by rw [ex8]; rfl) (by decide) rfl (fun ls hl => ?_)
        refine lv_goto (tgt := 15) hx hb dX10_isPlainNet_46 (by decide) ?_
        exact ih _ _ hw _ _ _ hP hD hS (lv_sub hl [2, 1, 0] rfl)
      · have hw := hw.2 c7
        refine lv_aload_n hx hb dX10_isPlainNet_27 rfl (lv_at hl 0 rfl) ?_
        refine va_get (D := (dC, dI)) (ci := 10) (v := .ref (ad_p0 3)) (C := RX10) (T := TX10) (N := 50) hx hb hts iX10 hown hK hP 0 rfl rfl 3 (by decide) (hts (.fieldLink RX10 13 "NetHouseModel" "sort" "[I") (by decide +kernel)) (fun _ h9 => h9) rfl dX10_isPlainNet_28 ?_
        refine lv_iload_n hx hb dX10_isPlainNet_31 rfl (lv_at hl 2 rfl) ?_
        refine va_iald hx hb hK hP 2 0 rfl rfl hw.1 dX10_isPlainNet_32 ?_
        have hw := hw.2
        refine lv_iconst (v := 2) hx hb dX10_isPlainNet_33 (by decide) ?_
        refine lv_icmp_ge (tgt := 41) hx hb dX10_isPlainNet_34 (by decide) (fun c9 => ?_) (fun c10 => ?_)
        · have hw := hw.1 c9
          refine lv_iconst (v := 0) hx hb dX10_isPlainNet_41 (by decide) ?_
          refine lv_istore_n (lv' := [(1, .int (0 : Int32)), (0, .ref h_p0), (2, .int v2)]) hx hb dX10_isPlainNet_42 rfl hl (by decide) rfl (fun ls hl => ?_)
          obtain ⟨x11, ex11⟩ : ∃ y : Int32, y = v2 + (1 : Int32) := ⟨_, rfl⟩
          have hw := hw x11 ex11
          refine lv_iinc (v := x11) (lv' := [(2, .int x11), (1, .int (0 : Int32)), (0, .ref h_p0)]) hx hb dX10_isPlainNet_43 hl (k := 2) rfl (by rw [ex11]; rfl) (by decide) rfl (fun ls hl => ?_)
          refine lv_goto (tgt := 15) hx hb dX10_isPlainNet_46 (by decide) ?_
          exact ih _ _ hw _ _ _ hP hD hS (lv_sub hl [2, 1, 0] rfl)
        · have hw := hw.2 c10
          refine lv_iconst (v := 1) hx hb dX10_isPlainNet_37 (by decide) ?_
          refine lv_goto (tgt := 42) hx hb dX10_isPlainNet_38 (by decide) ?_
          refine lv_istore_n (lv' := [(1, .int (1 : Int32)), (0, .ref h_p0), (2, .int v2)]) hx hb dX10_isPlainNet_42 rfl hl (by decide) rfl (fun ls hl => ?_)
          obtain ⟨x12, ex12⟩ : ∃ y : Int32, y = v2 + (1 : Int32) := ⟨_, rfl⟩
          have hw := hw x12 ex12
          refine lv_iinc (v := x12) (lv' := [(2, .int x12), (1, .int (1 : Int32)), (0, .ref h_p0)]) hx hb dX10_isPlainNet_43 hl (k := 2) rfl (by rw [ex12]; rfl) (by decide) rfl (fun ls hl => ?_)
          refine lv_goto (tgt := 15) hx hb dX10_isPlainNet_46 (by decide) ?_
          exact ih _ _ hw _ _ _ hP hD hS (lv_sub hl [2, 1, 0] rfl)
set_option maxHeartbeats 4000000 in
set_option maxRecDepth 100000 in
theorem c_X10_isPlainNet {l : Launch} {dC : Nat → ClassId} {dI : Nat → Nat → Nat} {sz : Nat} {cI cJ cZ : ClassId} {h_p0 : Nat} {ad_p0 : Nat → Nat} {p0_places : Int32} {p0_steps : Int32} {p0_pastFirst : Int32} {p0_past : Int32} {p0_goings : Int32} {p0_rowSize : Int32} {p0_ways : Int32} {p0_hasField : Int32} {p0_fieldSize : Int32} {p0_faultNow : Int32} {p0_hasTree : Int32} {p0_treeSize : Int32} {p0_weightCount : Int32} {p0_roundCount : Int32} {p0_setCount : Int32} {p0_colour : Nat → Int32} {p0_sort : Nat → Int32}  {post : Int32 → Prop} (hw : w_X10_isPlainNet p0_places p0_steps p0_colour p0_sort post) : Met l yX10_isPlainNet wsX10_isPlainNet ({ frames := 1, cells := 0, slots := 0, locals := 22 }) (va_Pc [.ref h_p0] (xPre (dC, dI) cI cJ cZ (wld_X10_isPlainNet cI cJ cZ h_p0 ad_p0 p0_places p0_steps p0_pastFirst p0_past p0_goings p0_rowSize p0_ways p0_hasField p0_fieldSize p0_faultNow p0_hasTree p0_treeSize p0_weightCount p0_roundCount p0_setCount p0_colour p0_sort) sz)) (q_X10_isPlainNet dC dI cI cJ cZ h_p0 ad_p0 p0_places p0_steps p0_pastFirst p0_past p0_goings p0_rowSize p0_ways p0_hasField p0_fieldSize p0_faultNow p0_hasTree p0_treeSize p0_weightCount p0_roundCount p0_setCount p0_colour p0_sort post (va_A (wld_X10_isPlainNet cI cJ cZ h_p0 ad_p0 p0_places p0_steps p0_pastFirst p0_past p0_goings p0_rowSize p0_ways p0_hasField p0_fieldSize p0_faultNow p0_hasTree p0_treeSize p0_weightCount p0_roundCount p0_setCount p0_colour p0_sort) sz)) 0 0 (va_A (wld_X10_isPlainNet cI cJ cZ h_p0 ad_p0 p0_places p0_steps p0_pastFirst p0_past p0_goings p0_rowSize p0_ways p0_hasField p0_fieldSize p0_faultNow p0_hasTree p0_treeSize p0_weightCount p0_roundCount p0_setCount p0_colour p0_sort) sz) := by
  refine x_met (cc := cX10_isPlainNet) (maxL := 3) (ret := (some .boolean)) (own := RX10) (Qc := fun A => (q_X10_isPlainNet dC dI cI cJ cZ h_p0 ad_p0 p0_places p0_steps p0_pastFirst p0_past p0_goings p0_rowSize p0_ways p0_hasField p0_fieldSize p0_faultNow p0_hasTree p0_treeSize p0_weightCount p0_roundCount p0_setCount p0_colour p0_sort post A)) (by decide) rfl rfl (Nat.le_of_ble_eq_true rfl) ?_
  intro p e s m args below meth c A ls E0 hP hD hS hl
  obtain ⟨hx, hb, hr, hml, hown, hts, hlocks, hK, hA, n1, n2⟩ := id E0
  have iX10 : ∀ w ∈ u_ws RX10 TX10 50, w ∈ wsX10_isPlainNet := fun w h => List.mem_cons_of_mem _ (List.mem_append_right _ h)
  have hS0 := hS
  have hl : lv_has ls 3 [(0, .ref h_p0)] := hl
  unfold w_X10_isPlainNet at hw
  obtain ⟨H, hH⟩ : ∃ H, H = s.heap := ⟨_, rfl⟩
  have hS : va_S A s.heap H [] := by rw [hH]; exact hS
  have hP : va_P (dC, dI) vwCl (wld_X10_isPlainNet cI cJ cZ h_p0 ad_p0 p0_places p0_steps p0_pastFirst p0_past p0_goings p0_rowSize p0_ways p0_hasField p0_fieldSize p0_faultNow p0_hasTree p0_treeSize p0_weightCount p0_roundCount p0_setCount p0_colour p0_sort) H := by rw [hH]; exact hP
  suffices hG : W p l e ({ frames := 1, cells := 0, slots := 0, locals := 22 }) s m args below meth c H [] 0 0 (MQ below (q_X10_isPlainNet dC dI cI cJ cZ h_p0 ad_p0 p0_places p0_steps p0_pastFirst p0_past p0_goings p0_rowSize p0_ways p0_hasField p0_fieldSize p0_faultNow p0_hasTree p0_treeSize p0_weightCount p0_roundCount p0_setCount p0_colour p0_sort post A) args s 0 0 A) (F0 m 0 ls []) by rw [hH] at hG; exact hG
  clear hH
  refine lv_aload_n hx hb dX10_isPlainNet_0 rfl (lv_at hl 0 rfl) ?_
  obtain ⟨hPc, hDc⟩ := x_sub (wc := (wld_X10_hasColour cI cJ cZ h_p0 ad_p0 p0_places p0_steps p0_pastFirst p0_past p0_goings p0_rowSize p0_ways p0_hasField p0_fieldSize p0_faultNow p0_hasTree p0_treeSize p0_weightCount p0_roundCount p0_setCount p0_colour)) hP hD [0, 1] (n := 3) rfl rfl (by decide +kernel)
  refine x_calli (ws' := fun (u : Unit) => (wld_X10_isPlainNet cI cJ cZ h_p0 ad_p0 p0_places p0_steps p0_pastFirst p0_past p0_goings p0_rowSize p0_ways p0_hasField p0_fieldSize p0_faultNow p0_hasTree p0_treeSize p0_weightCount p0_roundCount p0_setCount p0_colour p0_sort)) hP hD hS hA [0, 1] [2] [1, 2, 0] (n := 3) (k := 2) rfl (fun _ => rfl) rfl (by decide +kernel) (fun _ => rfl) (va_runV (As := []) (rest := []) ⟨hx, hb, hml, hown, hts⟩ (c_X10_hasColour (l := l) (dC := dC) (dI := dI) (cI := cI) (cJ := cJ) (cZ := cZ) (sz := H.size) (h_p0 := h_p0) (ad_p0 := ad_p0) (p0_places := p0_places) (p0_steps := p0_steps) (p0_pastFirst := p0_pastFirst) (p0_past := p0_past) (p0_goings := p0_goings) (p0_rowSize := p0_rowSize) (p0_ways := p0_ways) (p0_hasField := p0_hasField) (p0_fieldSize := p0_fieldSize) (p0_faultNow := p0_faultNow) (p0_hasTree := p0_hasTree) (p0_treeSize := p0_treeSize) (p0_weightCount := p0_weightCount) (p0_roundCount := p0_roundCount) (p0_setCount := p0_setCount) (p0_colour := p0_colour) hw) (cwV 0 hts gX10_isPlainNet_X10_hasColour rfl rfl rfl (by decide +kernel) ⟨Nat.le_of_ble_eq_true rfl, Nat.le_of_ble_eq_true rfl⟩) ⟨xPre_blind, va_recv hK hP (ci := 10) (q0 := 0) rfl rfl, xPre_at hK hPc hDc n1 n2⟩ rfl rfl hl.1 rfl (lv_room (Nat.le_of_ble_eq_true rfl)) dX10_isPlainNet_1 ⟨Nat.zero_le _, Nat.zero_le _⟩) (fun r1 u H locs hw hP hD hS => ?_)
  try dsimp only at hw
  have hP : va_P (dC, dI) vwCl (wld_X10_isPlainNet cI cJ cZ h_p0 ad_p0 p0_places p0_steps p0_pastFirst p0_past p0_goings p0_rowSize p0_ways p0_hasField p0_fieldSize p0_faultNow p0_hasTree p0_treeSize p0_weightCount p0_roundCount p0_setCount p0_colour p0_sort) H := hP
  have hD : va_D A (wld_X10_isPlainNet cI cJ cZ h_p0 ad_p0 p0_places p0_steps p0_pastFirst p0_past p0_goings p0_rowSize p0_ways p0_hasField p0_fieldSize p0_faultNow p0_hasTree p0_treeSize p0_weightCount p0_roundCount p0_setCount p0_colour p0_sort) := hD
  refine lv_if_ne (tgt := 11) hx hb dX10_isPlainNet_4 (by decide) (fun c2 => ?_) (fun c3 => ?_)
  · have hw := hw.1 c2
    refine lv_iconst (v := 0) hx hb dX10_isPlainNet_11 (by decide) ?_
    refine lv_istore_n (lv' := [(1, .int (0 : Int32)), (0, .ref h_p0)]) hx hb dX10_isPlainNet_12 rfl hl (by decide) rfl (fun ls hl => ?_)
    refine lv_iconst (v := 0) hx hb dX10_isPlainNet_13 (by decide) ?_
    refine lv_istore_n (lv' := [(2, .int (0 : Int32)), (1, .int (0 : Int32)), (0, .ref h_p0)]) hx hb dX10_isPlainNet_14 rfl hl (by decide) rfl (fun ls hl => ?_)
    obtain ⟨n13, hw⟩ := hw
    refine c_X10_isPlainNet_L15 (l := l)  E0 ?_ n13 _ _ hw _ _ _ hP hD hS (lv_sub hl [2, 1, 0] rfl)
    · intro v14 v15 H locs ls hw hP hD hS hl
      have hP : va_P (dC, dI) vwCl (wld_X10_isPlainNet cI cJ cZ h_p0 ad_p0 p0_places p0_steps p0_pastFirst p0_past p0_goings p0_rowSize p0_ways p0_hasField p0_fieldSize p0_faultNow p0_hasTree p0_treeSize p0_weightCount p0_roundCount p0_setCount p0_colour p0_sort) H := hP
      have hD : va_D A (wld_X10_isPlainNet cI cJ cZ h_p0 ad_p0 p0_places p0_steps p0_pastFirst p0_past p0_goings p0_rowSize p0_ways p0_hasField p0_fieldSize p0_faultNow p0_hasTree p0_treeSize p0_weightCount p0_roundCount p0_setCount p0_colour p0_sort) := hD
      refine lv_iload_n hx hb dX10_isPlainNet_49 rfl (lv_at hl 0 rfl) ?_
      have hv := hw.1
      have hw := hw.2
      exact x_zret (w1 := fun (u : Unit) => (wld_X10_isPlainNet cI cJ cZ h_p0 ad_p0 p0_places p0_steps p0_pastFirst p0_past p0_goings p0_rowSize p0_ways p0_hasField p0_fieldSize p0_faultNow p0_hasTree p0_treeSize p0_weightCount p0_roundCount p0_setCount p0_colour p0_sort)) hx hb hr hlocks hv () hw hP hD hS dX10_isPlainNet_50
  · have hw := hw.2 c3
    refine lv_iconst (v := 1) hx hb dX10_isPlainNet_7 (by decide) ?_
    refine lv_goto (tgt := 12) hx hb dX10_isPlainNet_8 (by decide) ?_
    refine lv_istore_n (lv' := [(1, .int (1 : Int32)), (0, .ref h_p0)]) hx hb dX10_isPlainNet_12 rfl hl (by decide) rfl (fun ls hl => ?_)
    refine lv_iconst (v := 0) hx hb dX10_isPlainNet_13 (by decide) ?_
    refine lv_istore_n (lv' := [(2, .int (0 : Int32)), (1, .int (1 : Int32)), (0, .ref h_p0)]) hx hb dX10_isPlainNet_14 rfl hl (by decide) rfl (fun ls hl => ?_)
    obtain ⟨n16, hw⟩ := hw
    refine c_X10_isPlainNet_L15 (l := l)  E0 ?_ n16 _ _ hw _ _ _ hP hD hS (lv_sub hl [2, 1, 0] rfl)
    · intro v17 v18 H locs ls hw hP hD hS hl
      have hP : va_P (dC, dI) vwCl (wld_X10_isPlainNet cI cJ cZ h_p0 ad_p0 p0_places p0_steps p0_pastFirst p0_past p0_goings p0_rowSize p0_ways p0_hasField p0_fieldSize p0_faultNow p0_hasTree p0_treeSize p0_weightCount p0_roundCount p0_setCount p0_colour p0_sort) H := hP
      have hD : va_D A (wld_X10_isPlainNet cI cJ cZ h_p0 ad_p0 p0_places p0_steps p0_pastFirst p0_past p0_goings p0_rowSize p0_ways p0_hasField p0_fieldSize p0_faultNow p0_hasTree p0_treeSize p0_weightCount p0_roundCount p0_setCount p0_colour p0_sort) := hD
      refine lv_iload_n hx hb dX10_isPlainNet_49 rfl (lv_at hl 0 rfl) ?_
      have hv := hw.1
      have hw := hw.2
      exact x_zret (w1 := fun (u : Unit) => (wld_X10_isPlainNet cI cJ cZ h_p0 ad_p0 p0_places p0_steps p0_pastFirst p0_past p0_goings p0_rowSize p0_ways p0_hasField p0_fieldSize p0_faultNow p0_hasTree p0_treeSize p0_weightCount p0_roundCount p0_setCount p0_colour p0_sort)) hx hb hr hlocks hv () hw hP hD hS dX10_isPlainNet_50
abbrev wld_X10_tree (cI cJ cZ : ClassId) (h_p0 : Nat) (ad_p0 : Nat → Nat) (p0_places : Int32) (p0_steps : Int32) (p0_pastFirst : Int32) (p0_past : Int32) (p0_goings : Int32) (p0_rowSize : Int32) (p0_ways : Int32) (p0_hasField : Int32) (p0_fieldSize : Int32) (p0_faultNow : Int32) (p0_hasTree : Int32) (p0_treeSize : Int32) (p0_weightCount : Int32) (p0_roundCount : Int32) (p0_setCount : Int32) (p0_aboveOf : Nat → Int32) (p0_colour : Nat → Int32) (p0_has : Nat → Int32) (p0_isLeaf : Nat → Int32) (p0_needs : Nat → Int32) (p0_nodes : Nat → Int32) (p0_puts : Nat → Int32) (p0_sort : Nat → Int32) (p0_stepOf : Nat → Int32) (p0_takes : Nat → Int32) : va_W := [(h_p0, .inr (10, [.int p0_places, .int p0_steps, .ref (ad_p0 2), .ref (ad_p0 3), .ref (ad_p0 4), .ref (ad_p0 5), .ref (ad_p0 6), .ref (ad_p0 7), .ref (ad_p0 8), .ref (ad_p0 9), .ref (ad_p0 10), .ref (ad_p0 11), .ref (ad_p0 12), .ref (ad_p0 13), .ref (ad_p0 14), .int p0_pastFirst, .int p0_past, .int p0_goings, .int p0_rowSize, .ref (ad_p0 19), .ref (ad_p0 20), .int p0_ways, .ref (ad_p0 22), .ref (ad_p0 23), .int p0_hasField, .int p0_fieldSize, .ref (ad_p0 26), .ref (ad_p0 27), .ref (ad_p0 28), .ref (ad_p0 29), .ref (ad_p0 30), .ref (ad_p0 31), .ref (ad_p0 32), .int p0_faultNow, .int p0_hasTree, .int p0_treeSize, .ref (ad_p0 36), .ref (ad_p0 37), .ref (ad_p0 38), .ref (ad_p0 39), .ref (ad_p0 40), .ref (ad_p0 41), .ref (ad_p0 42), .int p0_weightCount, .ref (ad_p0 44), .int p0_roundCount, .ref (ad_p0 46), .int p0_setCount, .ref (ad_p0 48), .ref (ad_p0 49)])), ((ad_p0 37), .inl (cI, 2000, .inl p0_aboveOf)), ((ad_p0 2), .inl (cI, 16, .inl p0_colour)), ((ad_p0 10), .inl (cI, 16, .inl p0_has)), ((ad_p0 39), .inl (cZ, 2000, .inl p0_isLeaf)), ((ad_p0 6), .inl (cI, 256, .inl p0_needs)), ((ad_p0 36), .inl (cI, 32000, .inl p0_nodes)), ((ad_p0 5), .inl (cI, 256, .inl p0_puts)), ((ad_p0 3), .inl (cI, 16, .inl p0_sort)), ((ad_p0 38), .inl (cI, 2000, .inl p0_stepOf)), ((ad_p0 4), .inl (cI, 256, .inl p0_takes))]
abbrev q_X10_tree (dC : Nat → ClassId) (dI : Nat → Nat → Nat) (cI cJ cZ : ClassId) (h_p0 : Nat) (ad_p0 : Nat → Nat) (p0_places : Int32) (p0_steps : Int32) (p0_pastFirst : Int32) (p0_past : Int32) (p0_goings : Int32) (p0_rowSize : Int32) (p0_ways : Int32) (p0_hasField : Int32) (p0_fieldSize : Int32) (p0_faultNow : Int32) (p0_hasTree : Int32) (p0_treeSize : Int32) (p0_weightCount : Int32) (p0_roundCount : Int32) (p0_setCount : Int32) (p0_aboveOf : Nat → Int32) (p0_colour : Nat → Int32) (p0_has : Nat → Int32) (p0_isLeaf : Nat → Int32) (p0_needs : Nat → Int32) (p0_nodes : Nat → Int32) (p0_puts : Nat → Int32) (p0_sort : Nat → Int32) (p0_stepOf : Nat → Int32) (p0_takes : Nat → Int32) (post : Int32 → (Int32) → (Int32) → (Nat → Int32) → (Nat → Int32) → (Nat → Int32) → (Nat → Int32) → Prop) (A : Nat → Prop) : Array Value → State → Outcome → State → Prop := va_Qi (fun r (u : (Int32) × (Int32) × (Nat → Int32) × (Nat → Int32) × (Nat → Int32) × (Nat → Int32)) => post r (u.1) (u.2.1) (u.2.2.1) (u.2.2.2.1) (u.2.2.2.2.1) (u.2.2.2.2.2)) (fun (u : (Int32) × (Int32) × (Nat → Int32) × (Nat → Int32) × (Nat → Int32) × (Nat → Int32)) t => xPost (dC, dI) A (wld_X10_tree cI cJ cZ h_p0 ad_p0 p0_places p0_steps p0_pastFirst p0_past p0_goings p0_rowSize p0_ways p0_hasField p0_fieldSize p0_faultNow (u.1) (u.2.1) p0_weightCount p0_roundCount p0_setCount (u.2.2.1) p0_colour p0_has (u.2.2.2.1) p0_needs (u.2.2.2.2.1) p0_puts p0_sort (u.2.2.2.2.2) p0_takes) t) A
def w_X10_tree_L26b (v1 : Int32) (p0_hasTree : Int32) (p0_places : Int32) (p0_steps : Int32) (p0_treeSize : Int32) (p0_aboveOf : Nat → Int32) (p0_colour : Nat → Int32) (p0_has : Nat → Int32) (p0_isLeaf : Nat → Int32) (p0_needs : Nat → Int32) (p0_puts : Nat → Int32) (p0_sort : Nat → Int32) (p0_stepOf : Nat → Int32) (p0_takes : Nat → Int32) (post : Int32 → (Int32) → (Int32) → (Nat → Int32) → (Nat → Int32) → (Nat → Int32) → (Nat → Int32) → Prop) (K : (Int32) → (Nat → Int32) → Prop) (rec : (Int32) → (Nat → Int32) → Prop) (v2 : Int32) (p0_nodes : Nat → Int32) : Prop :=
    (p0_places ≤ v2 →
      K v2 p0_nodes) ∧
    (¬ p0_places ≤ v2 →
      vp_in v2 16 ∧
      vp_in v2 32000 ∧
      ∀ x9 : Int32, x9 = v2 + (1 : Int32) →
      rec x9 (upd p0_nodes v2.toNatClampNeg (p0_has v2.toNatClampNeg)))
def w_X10_tree_L26 (v1 : Int32) (p0_hasTree : Int32) (p0_places : Int32) (p0_steps : Int32) (p0_treeSize : Int32) (p0_aboveOf : Nat → Int32) (p0_colour : Nat → Int32) (p0_has : Nat → Int32) (p0_isLeaf : Nat → Int32) (p0_needs : Nat → Int32) (p0_puts : Nat → Int32) (p0_sort : Nat → Int32) (p0_stepOf : Nat → Int32) (p0_takes : Nat → Int32) (post : Int32 → (Int32) → (Int32) → (Nat → Int32) → (Nat → Int32) → (Nat → Int32) → (Nat → Int32) → Prop) (K : (Int32) → (Nat → Int32) → Prop) : Nat → (Int32) → (Nat → Int32) → Prop
  | 0, _, _ => False
  | n + 1, v2, p0_nodes => w_X10_tree_L26b v1 p0_hasTree p0_places p0_steps p0_treeSize p0_aboveOf p0_colour p0_has p0_isLeaf p0_needs p0_puts p0_sort p0_stepOf p0_takes post K (w_X10_tree_L26 v1 p0_hasTree p0_places p0_steps p0_treeSize p0_aboveOf p0_colour p0_has p0_isLeaf p0_needs p0_puts p0_sort p0_stepOf p0_takes post K n) v2 p0_nodes
def w_X10_tree_L101b (v1 : Int32) (v2 : Int32) (p0_places : Int32) (p0_steps : Int32) (p0_colour : Nat → Int32) (p0_has : Nat → Int32) (p0_isLeaf : Nat → Int32) (p0_needs : Nat → Int32) (p0_puts : Nat → Int32) (p0_sort : Nat → Int32) (p0_takes : Nat → Int32) (post : Int32 → (Int32) → (Int32) → (Nat → Int32) → (Nat → Int32) → (Nat → Int32) → (Nat → Int32) → Prop) (K : (Int32) → (Int32) → (Int32) → (Nat → Int32) → (Nat → Int32) → (Nat → Int32) → Prop) (rec : (Int32) → (Int32) → (Int32) → (Nat → Int32) → (Nat → Int32) → (Nat → Int32) → Prop) (v3 : Int32) (p0_hasTree : Int32) (p0_treeSize : Int32) (p0_aboveOf : Nat → Int32) (p0_nodes : Nat → Int32) (p0_stepOf : Nat → Int32) : Prop :=
    (p0_steps ≤ v3 →
      K v3 p0_hasTree p0_treeSize p0_aboveOf p0_nodes p0_stepOf) ∧
    (¬ p0_steps ≤ v3 →
      vp_in v2 2000 ∧
      (¬ (p0_isLeaf v2.toNatClampNeg) = 0 →
        K v3 p0_hasTree p0_treeSize p0_aboveOf p0_nodes p0_stepOf) ∧
      ((p0_isLeaf v2.toNatClampNeg) = 0 →
        w_X10_mayAt p0_places p0_needs p0_nodes p0_takes v3 v2 (fun r20 =>
        (r20 = 0 →
          ∀ x23 : Int32, x23 = v3 + (1 : Int32) →
          rec x23 p0_hasTree p0_treeSize p0_aboveOf p0_nodes p0_stepOf) ∧
        (¬ r20 = 0 →
          (¬ p0_treeSize = v1 →
            w_X10_addNode p0_places p0_treeSize p0_aboveOf p0_nodes p0_puts p0_stepOf p0_takes v2 v3 (fun y26 y27 y28 y29 =>
            ∀ x30 : Int32, x30 = v3 + (1 : Int32) →
            rec x30 p0_hasTree y26 y27 y28 y29)) ∧
          (p0_treeSize = v1 →
            (post (-2000000004 : Int32) (0 : Int32) (0 : Int32) p0_aboveOf p0_isLeaf p0_nodes p0_stepOf))))))
def w_X10_tree_L101 (v1 : Int32) (v2 : Int32) (p0_places : Int32) (p0_steps : Int32) (p0_colour : Nat → Int32) (p0_has : Nat → Int32) (p0_isLeaf : Nat → Int32) (p0_needs : Nat → Int32) (p0_puts : Nat → Int32) (p0_sort : Nat → Int32) (p0_takes : Nat → Int32) (post : Int32 → (Int32) → (Int32) → (Nat → Int32) → (Nat → Int32) → (Nat → Int32) → (Nat → Int32) → Prop) (K : (Int32) → (Int32) → (Int32) → (Nat → Int32) → (Nat → Int32) → (Nat → Int32) → Prop) : Nat → (Int32) → (Int32) → (Int32) → (Nat → Int32) → (Nat → Int32) → (Nat → Int32) → Prop
  | 0, _, _, _, _, _, _ => False
  | n + 1, v3, p0_hasTree, p0_treeSize, p0_aboveOf, p0_nodes, p0_stepOf => w_X10_tree_L101b v1 v2 p0_places p0_steps p0_colour p0_has p0_isLeaf p0_needs p0_puts p0_sort p0_takes post K (w_X10_tree_L101 v1 v2 p0_places p0_steps p0_colour p0_has p0_isLeaf p0_needs p0_puts p0_sort p0_takes post K n) v3 p0_hasTree p0_treeSize p0_aboveOf p0_nodes p0_stepOf
def w_X10_tree_L80b (v1 : Int32) (p0_places : Int32) (p0_steps : Int32) (p0_colour : Nat → Int32) (p0_has : Nat → Int32) (p0_needs : Nat → Int32) (p0_puts : Nat → Int32) (p0_sort : Nat → Int32) (p0_takes : Nat → Int32) (post : Int32 → (Int32) → (Int32) → (Nat → Int32) → (Nat → Int32) → (Nat → Int32) → (Nat → Int32) → Prop) (K : (Int32) → (Int32) → (Int32) → (Nat → Int32) → (Nat → Int32) → (Nat → Int32) → (Nat → Int32) → Prop) (rec : (Int32) → (Int32) → (Int32) → (Nat → Int32) → (Nat → Int32) → (Nat → Int32) → (Nat → Int32) → Prop) (v2 : Int32) (p0_hasTree : Int32) (p0_treeSize : Int32) (p0_aboveOf : Nat → Int32) (p0_isLeaf : Nat → Int32) (p0_nodes : Nat → Int32) (p0_stepOf : Nat → Int32) : Prop :=
    (p0_treeSize ≤ v2 →
      K v2 p0_hasTree p0_treeSize p0_aboveOf p0_isLeaf p0_nodes p0_stepOf) ∧
    (¬ p0_treeSize ≤ v2 →
      w_X10_isTwice p0_places p0_nodes v2 (fun r15 =>
      vp_in v2 2000 ∧
      ∃ n : Nat, w_X10_tree_L101 v1 v2 p0_places p0_steps p0_colour p0_has (upd p0_isLeaf v2.toNatClampNeg (vp_nar .boolean r15)) p0_needs p0_puts p0_sort p0_takes post (fun v32 s33 s34 s35 s36 s37 =>
          ∀ x38 : Int32, x38 = v2 + (1 : Int32) →
          rec x38 s33 s34 s35 (upd p0_isLeaf v2.toNatClampNeg (vp_nar .boolean r15)) s36 s37) n (0 : Int32) p0_hasTree p0_treeSize p0_aboveOf p0_nodes p0_stepOf))
def w_X10_tree_L80 (v1 : Int32) (p0_places : Int32) (p0_steps : Int32) (p0_colour : Nat → Int32) (p0_has : Nat → Int32) (p0_needs : Nat → Int32) (p0_puts : Nat → Int32) (p0_sort : Nat → Int32) (p0_takes : Nat → Int32) (post : Int32 → (Int32) → (Int32) → (Nat → Int32) → (Nat → Int32) → (Nat → Int32) → (Nat → Int32) → Prop) (K : (Int32) → (Int32) → (Int32) → (Nat → Int32) → (Nat → Int32) → (Nat → Int32) → (Nat → Int32) → Prop) : Nat → (Int32) → (Int32) → (Int32) → (Nat → Int32) → (Nat → Int32) → (Nat → Int32) → (Nat → Int32) → Prop
  | 0, _, _, _, _, _, _, _ => False
  | n + 1, v2, p0_hasTree, p0_treeSize, p0_aboveOf, p0_isLeaf, p0_nodes, p0_stepOf => w_X10_tree_L80b v1 p0_places p0_steps p0_colour p0_has p0_needs p0_puts p0_sort p0_takes post K (w_X10_tree_L80 v1 p0_places p0_steps p0_colour p0_has p0_needs p0_puts p0_sort p0_takes post K n) v2 p0_hasTree p0_treeSize p0_aboveOf p0_isLeaf p0_nodes p0_stepOf
def w_X10_tree (p0_hasTree : Int32) (p0_places : Int32) (p0_steps : Int32) (p0_treeSize : Int32) (p0_aboveOf : Nat → Int32) (p0_colour : Nat → Int32) (p0_has : Nat → Int32) (p0_isLeaf : Nat → Int32) (p0_needs : Nat → Int32) (p0_nodes : Nat → Int32) (p0_puts : Nat → Int32) (p0_sort : Nat → Int32) (p0_stepOf : Nat → Int32) (p0_takes : Nat → Int32) (a1 : Int32) (post : Int32 → (Int32) → (Int32) → (Nat → Int32) → (Nat → Int32) → (Nat → Int32) → (Nat → Int32) → Prop) : Prop :=
  w_X10_isIn a1 (1 : Int32) (2000 : Int32) (fun r1 =>
  (¬ r1 = 0 →
    w_X10_isPlainNet p0_places p0_steps p0_colour p0_sort (fun r4 =>
    (¬ r4 = 0 →
      ∃ n : Nat, w_X10_tree_L26 a1 p0_hasTree p0_places p0_steps p0_treeSize p0_aboveOf p0_colour p0_has p0_isLeaf p0_needs p0_puts p0_sort p0_stepOf p0_takes post (fun v11 s12 =>
          vp_in (0 : Int32) 2000 ∧
          vp_in (0 : Int32) 2000 ∧
          ∃ n : Nat, w_X10_tree_L80 a1 p0_places p0_steps p0_colour p0_has p0_needs p0_puts p0_sort p0_takes post (fun v40 s41 s42 s43 s44 s45 s46 =>
              (post s42 s41 s42 s43 s44 s45 s46)) n (0 : Int32) (1 : Int32) (1 : Int32) (upd p0_aboveOf (0 : Int32).toNatClampNeg (-2000000005 : Int32)) p0_isLeaf s12 (upd p0_stepOf (0 : Int32).toNatClampNeg (-2000000005 : Int32))) n (0 : Int32) p0_nodes) ∧
    (r4 = 0 →
      (post (-2000000002 : Int32) p0_hasTree p0_treeSize p0_aboveOf p0_isLeaf p0_nodes p0_stepOf)))) ∧
  (r1 = 0 →
    (post (-2000000001 : Int32) p0_hasTree p0_treeSize p0_aboveOf p0_isLeaf p0_nodes p0_stepOf)))
set_option maxHeartbeats 4000000 in
set_option maxRecDepth 100000 in
theorem c_X10_tree_L26 {p : Program} {l : Launch} {e : Env} {s : State} {m : MethodId} {args : Array Value} {below : List Frame} {meth : Method} {c : Code} {dC : Nat → ClassId} {dI : Nat → Nat → Nat} {A : Nat → Prop} {cI cJ cZ : ClassId} {h_p0 : Nat} {ad_p0 : Nat → Nat} {p0_places : Int32} {p0_steps : Int32} {p0_pastFirst : Int32} {p0_past : Int32} {p0_goings : Int32} {p0_rowSize : Int32} {p0_ways : Int32} {p0_hasField : Int32} {p0_fieldSize : Int32} {p0_faultNow : Int32} {p0_hasTree : Int32} {p0_treeSize : Int32} {p0_weightCount : Int32} {p0_roundCount : Int32} {p0_setCount : Int32} {p0_aboveOf : Nat → Int32} {p0_colour : Nat → Int32} {p0_has : Nat → Int32} {p0_isLeaf : Nat → Int32} {p0_needs : Nat → Int32} {p0_puts : Nat → Int32} {p0_sort : Nat → Int32} {p0_stepOf : Nat → Int32} {p0_takes : Nat → Int32} {v1 : Int32} {z_p0_nodes : Nat → Int32} {post : Int32 → (Int32) → (Int32) → (Nat → Int32) → (Nat → Int32) → (Nat → Int32) → (Nat → Int32) → Prop} {K : (Int32) → (Nat → Int32) → Prop} (E0 : xEnv p s m args meth c cX10_tree (some .int) 4 RX10 wsX10_tree (dC, dI) cI cJ cZ A) (hk : ∀ (v2 : Int32) (p0_nodes : Nat → Int32) (H : Heap) (locs : List Loc) (ls : Array Slot), K v2 p0_nodes → va_P (dC, dI) vwCl (wld_X10_tree cI cJ cZ h_p0 ad_p0 p0_places p0_steps p0_pastFirst p0_past p0_goings p0_rowSize p0_ways p0_hasField p0_fieldSize p0_faultNow p0_hasTree p0_treeSize p0_weightCount p0_roundCount p0_setCount p0_aboveOf p0_colour p0_has p0_isLeaf p0_needs p0_nodes p0_puts p0_sort p0_stepOf p0_takes) H → va_D A (wld_X10_tree cI cJ cZ h_p0 ad_p0 p0_places p0_steps p0_pastFirst p0_past p0_goings p0_rowSize p0_ways p0_hasField p0_fieldSize p0_faultNow p0_hasTree p0_treeSize p0_weightCount p0_roundCount p0_setCount p0_aboveOf p0_colour p0_has p0_isLeaf p0_needs p0_nodes p0_puts p0_sort p0_stepOf p0_takes) → va_S A s.heap H locs → lv_has ls 4 [(0, .ref h_p0), (1, .int v1)] → W p l e ({ frames := 4, cells := 0, slots := 0, locals := 94 }) s m args below meth c H locs 0 0 (MQ below (q_X10_tree dC dI cI cJ cZ h_p0 ad_p0 p0_places p0_steps p0_pastFirst p0_past p0_goings p0_rowSize p0_ways p0_hasField p0_fieldSize p0_faultNow p0_hasTree p0_treeSize p0_weightCount p0_roundCount p0_setCount p0_aboveOf p0_colour p0_has p0_isLeaf p0_needs z_p0_nodes p0_puts p0_sort p0_stepOf p0_takes post A) args s 0 0 A) (F0 m 52 ls [])) : ∀ (n : Nat) (v2 : Int32) (p0_nodes : Nat → Int32), w_X10_tree_L26 v1 p0_hasTree p0_places p0_steps p0_treeSize p0_aboveOf p0_colour p0_has p0_isLeaf p0_needs p0_puts p0_sort p0_stepOf p0_takes post K n v2 p0_nodes → ∀ (H : Heap) (locs : List Loc) (ls : Array Slot), va_P (dC, dI) vwCl (wld_X10_tree cI cJ cZ h_p0 ad_p0 p0_places p0_steps p0_pastFirst p0_past p0_goings p0_rowSize p0_ways p0_hasField p0_fieldSize p0_faultNow p0_hasTree p0_treeSize p0_weightCount p0_roundCount p0_setCount p0_aboveOf p0_colour p0_has p0_isLeaf p0_needs p0_nodes p0_puts p0_sort p0_stepOf p0_takes) H → va_D A (wld_X10_tree cI cJ cZ h_p0 ad_p0 p0_places p0_steps p0_pastFirst p0_past p0_goings p0_rowSize p0_ways p0_hasField p0_fieldSize p0_faultNow p0_hasTree p0_treeSize p0_weightCount p0_roundCount p0_setCount p0_aboveOf p0_colour p0_has p0_isLeaf p0_needs p0_nodes p0_puts p0_sort p0_stepOf p0_takes) → va_S A s.heap H locs → lv_has ls 4 [(0, .ref h_p0), (1, .int v1), (2, .int v2)] → W p l e ({ frames := 4, cells := 0, slots := 0, locals := 94 }) s m args below meth c H locs 0 0 (MQ below (q_X10_tree dC dI cI cJ cZ h_p0 ad_p0 p0_places p0_steps p0_pastFirst p0_past p0_goings p0_rowSize p0_ways p0_hasField p0_fieldSize p0_faultNow p0_hasTree p0_treeSize p0_weightCount p0_roundCount p0_setCount p0_aboveOf p0_colour p0_has p0_isLeaf p0_needs z_p0_nodes p0_puts p0_sort p0_stepOf p0_takes post A) args s 0 0 A) (F0 m 26 ls []) := by
  obtain ⟨hx, hb, hr, hml, hown, hts, hlocks, hK, hA, n1, n2⟩ := id E0
  have iX10 : ∀ w ∈ u_ws RX10 TX10 50, w ∈ wsX10_tree := fun w h => List.mem_cons_of_mem _ (List.mem_append_right _ h)
  intro n
  induction n with
  | zero => intro v2 p0_nodes hw; exact hw.elim
  | succ n ih =>
    intro v2 p0_nodes hw H locs ls hP hD hS hl
    have hw : w_X10_tree_L26b v1 p0_hasTree p0_places p0_steps p0_treeSize p0_aboveOf p0_colour p0_has p0_isLeaf p0_needs p0_puts p0_sort p0_stepOf p0_takes post K (w_X10_tree_L26 v1 p0_hasTree p0_places p0_steps p0_treeSize p0_aboveOf p0_colour p0_has p0_isLeaf p0_needs p0_puts p0_sort p0_stepOf p0_takes post K n) v2 p0_nodes := hw
    unfold w_X10_tree_L26b at hw
    refine lv_iload_n hx hb dX10_tree_26 rfl (lv_at hl 2 rfl) ?_
    refine lv_aload_n hx hb dX10_tree_27 rfl (lv_at hl 0 rfl) ?_
    refine va_get (D := (dC, dI)) (ci := 10) (v := .int p0_places) (C := RX10) (T := TX10) (N := 50) hx hb hts iX10 hown hK hP 0 rfl rfl 0 (by decide) (hts (.fieldLink RX10 127 "NetHouseModel" "places" "I") (by decide +kernel)) (fun _ h9 => h9) rfl dX10_tree_28 ?_
    refine lv_icmp_ge (tgt := 52) hx hb dX10_tree_31 (by decide) (fun c7 => ?_) (fun c8 => ?_)
    · have hw := hw.1 c7
      exact hk _ _ _ _ _ hw hP hD hS (lv_sub hl [0, 1] rfl)
    · have hw := hw.2 c8
      refine lv_aload_n hx hb dX10_tree_34 rfl (lv_at hl 0 rfl) ?_
      refine va_get (D := (dC, dI)) (ci := 10) (v := .ref (ad_p0 36)) (C := RX10) (T := TX10) (N := 50) hx hb hts iX10 hown hK hP 0 rfl rfl 36 (by decide) (hts (.fieldLink RX10 90 "NetHouseModel" "nodes" "[I") (by decide +kernel)) (fun _ h9 => h9) rfl dX10_tree_35 ?_
      refine lv_iload_n hx hb dX10_tree_38 rfl (lv_at hl 2 rfl) ?_
      refine lv_aload_n hx hb dX10_tree_39 rfl (lv_at hl 0 rfl) ?_
      refine va_get (D := (dC, dI)) (ci := 10) (v := .ref (ad_p0 10)) (C := RX10) (T := TX10) (N := 50) hx hb hts iX10 hown hK hP 0 rfl rfl 10 (by decide) (hts (.fieldLink RX10 34 "NetHouseModel" "has" "[I") (by decide +kernel)) (fun _ h9 => h9) rfl dX10_tree_40 ?_
      refine lv_iload_n hx hb dX10_tree_43 rfl (lv_at hl 2 rfl) ?_
      refine va_iald hx hb hK hP 3 0 rfl rfl hw.1 dX10_tree_44 ?_
      have hw := hw.2
      refine va_iast hx hb hK hP hD hS 6 0 rfl rfl hw.1 dX10_tree_45 (fun H locs hP hD hS => ?_)
      have hw := hw.2
      have hP : va_P (dC, dI) vwCl (wld_X10_tree cI cJ cZ h_p0 ad_p0 p0_places p0_steps p0_pastFirst p0_past p0_goings p0_rowSize p0_ways p0_hasField p0_fieldSize p0_faultNow p0_hasTree p0_treeSize p0_weightCount p0_roundCount p0_setCount p0_aboveOf p0_colour p0_has p0_isLeaf p0_needs (upd p0_nodes v2.toNatClampNeg (p0_has v2.toNatClampNeg)) p0_puts p0_sort p0_stepOf p0_takes) H := hP
      have hD : va_D A (wld_X10_tree cI cJ cZ h_p0 ad_p0 p0_places p0_steps p0_pastFirst p0_past p0_goings p0_rowSize p0_ways p0_hasField p0_fieldSize p0_faultNow p0_hasTree p0_treeSize p0_weightCount p0_roundCount p0_setCount p0_aboveOf p0_colour p0_has p0_isLeaf p0_needs (upd p0_nodes v2.toNatClampNeg (p0_has v2.toNatClampNeg)) p0_puts p0_sort p0_stepOf p0_takes) := hD
      obtain ⟨x9, ex9⟩ : ∃ y : Int32, y = v2 + (1 : Int32) := ⟨_, rfl⟩
      have hw := hw x9 ex9
      refine lv_iinc (v := x9) (lv' := [(2, .int x9), (0, .ref h_p0), (1, .int v1)]) hx hb dX10_tree_46 hl (k := 2) rfl (by rw [ex9]; rfl) (by decide) rfl (fun ls hl => ?_)
      refine lv_goto (tgt := 26) hx hb dX10_tree_49 (by decide) ?_
      exact ih _ _ hw _ _ _ hP hD hS (lv_sub hl [1, 2, 0] rfl)
set_option maxHeartbeats 4000000 in
set_option maxRecDepth 100000 in
theorem c_X10_tree_L101 {p : Program} {l : Launch} {e : Env} {s : State} {m : MethodId} {args : Array Value} {below : List Frame} {meth : Method} {c : Code} {dC : Nat → ClassId} {dI : Nat → Nat → Nat} {A : Nat → Prop} {cI cJ cZ : ClassId} {h_p0 : Nat} {ad_p0 : Nat → Nat} {p0_places : Int32} {p0_steps : Int32} {p0_pastFirst : Int32} {p0_past : Int32} {p0_goings : Int32} {p0_rowSize : Int32} {p0_ways : Int32} {p0_hasField : Int32} {p0_fieldSize : Int32} {p0_faultNow : Int32} {p0_weightCount : Int32} {p0_roundCount : Int32} {p0_setCount : Int32} {p0_colour : Nat → Int32} {p0_has : Nat → Int32} {p0_isLeaf : Nat → Int32} {p0_needs : Nat → Int32} {p0_puts : Nat → Int32} {p0_sort : Nat → Int32} {p0_takes : Nat → Int32} {v1 : Int32} {v2 : Int32} {z_p0_hasTree : Int32} {z_p0_treeSize : Int32} {z_p0_aboveOf : Nat → Int32} {z_p0_nodes : Nat → Int32} {z_p0_stepOf : Nat → Int32} {post : Int32 → (Int32) → (Int32) → (Nat → Int32) → (Nat → Int32) → (Nat → Int32) → (Nat → Int32) → Prop} {K : (Int32) → (Int32) → (Int32) → (Nat → Int32) → (Nat → Int32) → (Nat → Int32) → Prop} (E0 : xEnv p s m args meth c cX10_tree (some .int) 4 RX10 wsX10_tree (dC, dI) cI cJ cZ A) (hk : ∀ (v3 : Int32) (p0_hasTree : Int32) (p0_treeSize : Int32) (p0_aboveOf : Nat → Int32) (p0_nodes : Nat → Int32) (p0_stepOf : Nat → Int32) (H : Heap) (locs : List Loc) (ls : Array Slot), K v3 p0_hasTree p0_treeSize p0_aboveOf p0_nodes p0_stepOf → va_P (dC, dI) vwCl (wld_X10_tree cI cJ cZ h_p0 ad_p0 p0_places p0_steps p0_pastFirst p0_past p0_goings p0_rowSize p0_ways p0_hasField p0_fieldSize p0_faultNow p0_hasTree p0_treeSize p0_weightCount p0_roundCount p0_setCount p0_aboveOf p0_colour p0_has p0_isLeaf p0_needs p0_nodes p0_puts p0_sort p0_stepOf p0_takes) H → va_D A (wld_X10_tree cI cJ cZ h_p0 ad_p0 p0_places p0_steps p0_pastFirst p0_past p0_goings p0_rowSize p0_ways p0_hasField p0_fieldSize p0_faultNow p0_hasTree p0_treeSize p0_weightCount p0_roundCount p0_setCount p0_aboveOf p0_colour p0_has p0_isLeaf p0_needs p0_nodes p0_puts p0_sort p0_stepOf p0_takes) → va_S A s.heap H locs → lv_has ls 4 [(0, .ref h_p0), (1, .int v1), (2, .int v2)] → W p l e ({ frames := 4, cells := 0, slots := 0, locals := 94 }) s m args below meth c H locs 0 0 (MQ below (q_X10_tree dC dI cI cJ cZ h_p0 ad_p0 p0_places p0_steps p0_pastFirst p0_past p0_goings p0_rowSize p0_ways p0_hasField p0_fieldSize p0_faultNow z_p0_hasTree z_p0_treeSize p0_weightCount p0_roundCount p0_setCount z_p0_aboveOf p0_colour p0_has p0_isLeaf p0_needs z_p0_nodes p0_puts p0_sort z_p0_stepOf p0_takes post A) args s 0 0 A) (F0 m 160 ls [])) : ∀ (n : Nat) (v3 : Int32) (p0_hasTree : Int32) (p0_treeSize : Int32) (p0_aboveOf : Nat → Int32) (p0_nodes : Nat → Int32) (p0_stepOf : Nat → Int32), w_X10_tree_L101 v1 v2 p0_places p0_steps p0_colour p0_has p0_isLeaf p0_needs p0_puts p0_sort p0_takes post K n v3 p0_hasTree p0_treeSize p0_aboveOf p0_nodes p0_stepOf → ∀ (H : Heap) (locs : List Loc) (ls : Array Slot), va_P (dC, dI) vwCl (wld_X10_tree cI cJ cZ h_p0 ad_p0 p0_places p0_steps p0_pastFirst p0_past p0_goings p0_rowSize p0_ways p0_hasField p0_fieldSize p0_faultNow p0_hasTree p0_treeSize p0_weightCount p0_roundCount p0_setCount p0_aboveOf p0_colour p0_has p0_isLeaf p0_needs p0_nodes p0_puts p0_sort p0_stepOf p0_takes) H → va_D A (wld_X10_tree cI cJ cZ h_p0 ad_p0 p0_places p0_steps p0_pastFirst p0_past p0_goings p0_rowSize p0_ways p0_hasField p0_fieldSize p0_faultNow p0_hasTree p0_treeSize p0_weightCount p0_roundCount p0_setCount p0_aboveOf p0_colour p0_has p0_isLeaf p0_needs p0_nodes p0_puts p0_sort p0_stepOf p0_takes) → va_S A s.heap H locs → lv_has ls 4 [(0, .ref h_p0), (1, .int v1), (2, .int v2), (3, .int v3)] → W p l e ({ frames := 4, cells := 0, slots := 0, locals := 94 }) s m args below meth c H locs 0 0 (MQ below (q_X10_tree dC dI cI cJ cZ h_p0 ad_p0 p0_places p0_steps p0_pastFirst p0_past p0_goings p0_rowSize p0_ways p0_hasField p0_fieldSize p0_faultNow z_p0_hasTree z_p0_treeSize p0_weightCount p0_roundCount p0_setCount z_p0_aboveOf p0_colour p0_has p0_isLeaf p0_needs z_p0_nodes p0_puts p0_sort z_p0_stepOf p0_takes post A) args s 0 0 A) (F0 m 101 ls []) := by
  obtain ⟨hx, hb, hr, hml, hown, hts, hlocks, hK, hA, n1, n2⟩ := id E0
  have iX10 : ∀ w ∈ u_ws RX10 TX10 50, w ∈ wsX10_tree := fun w h => List.mem_cons_of_mem _ (List.mem_append_right _ h)
  intro n
  induction n with
  | zero => intro v3 p0_hasTree p0_treeSize p0_aboveOf p0_nodes p0_stepOf hw; exact hw.elim
  | succ n ih =>
    intro v3 p0_hasTree p0_treeSize p0_aboveOf p0_nodes p0_stepOf hw H locs ls hP hD hS hl
    have hw : w_X10_tree_L101b v1 v2 p0_places p0_steps p0_colour p0_has p0_isLeaf p0_needs p0_puts p0_sort p0_takes post K (w_X10_tree_L101 v1 v2 p0_places p0_steps p0_colour p0_has p0_isLeaf p0_needs p0_puts p0_sort p0_takes post K n) v3 p0_hasTree p0_treeSize p0_aboveOf p0_nodes p0_stepOf := hw
    unfold w_X10_tree_L101b at hw
    refine lv_iload_n hx hb dX10_tree_101 rfl (lv_at hl 3 rfl) ?_
    refine lv_aload_n hx hb dX10_tree_102 rfl (lv_at hl 0 rfl) ?_
    refine va_get (D := (dC, dI)) (ci := 10) (v := .int p0_steps) (C := RX10) (T := TX10) (N := 50) hx hb hts iX10 hown hK hP 0 rfl rfl 1 (by decide) (hts (.fieldLink RX10 130 "NetHouseModel" "steps" "I") (by decide +kernel)) (fun _ h9 => h9) rfl dX10_tree_103 ?_
    refine lv_icmp_ge (tgt := 160) hx hb dX10_tree_106 (by decide) (fun c16 => ?_) (fun c17 => ?_)
    · have hw := hw.1 c16
      exact hk _ _ _ _ _ _ _ _ _ hw hP hD hS (lv_sub hl [0, 1, 2] rfl)
    · have hw := hw.2 c17
      refine lv_aload_n hx hb dX10_tree_109 rfl (lv_at hl 0 rfl) ?_
      refine va_get (D := (dC, dI)) (ci := 10) (v := .ref (ad_p0 39)) (C := RX10) (T := TX10) (N := 50) hx hb hts iX10 hown hK hP 0 rfl rfl 39 (by decide) (hts (.fieldLink RX10 99 "NetHouseModel" "isLeaf" "[Z") (by decide +kernel)) (fun _ h9 => h9) rfl dX10_tree_110 ?_
      refine lv_iload_n hx hb dX10_tree_113 rfl (lv_at hl 2 rfl) ?_
      refine va_zald hx hb hK hP 4 2 rfl rfl hw.1 dX10_tree_114 ?_
      have hw := hw.2
      refine lv_if_ne (tgt := 160) hx hb dX10_tree_115 (by decide) (fun c18 => ?_) (fun c19 => ?_)
      · have hw := hw.1 c18
        exact hk _ _ _ _ _ _ _ _ _ hw hP hD hS (lv_sub hl [0, 1, 2] rfl)
      · have hw := hw.2 c19
        refine lv_aload_n hx hb dX10_tree_118 rfl (lv_at hl 0 rfl) ?_
        refine lv_iload_n hx hb dX10_tree_119 rfl (lv_at hl 3 rfl) ?_
        refine lv_iload_n hx hb dX10_tree_120 rfl (lv_at hl 2 rfl) ?_
        obtain ⟨hPc, hDc⟩ := x_sub (wc := (wld_X10_mayAt cI cJ cZ h_p0 ad_p0 p0_places p0_steps p0_pastFirst p0_past p0_goings p0_rowSize p0_ways p0_hasField p0_fieldSize p0_faultNow p0_hasTree p0_treeSize p0_weightCount p0_roundCount p0_setCount p0_needs p0_nodes p0_takes)) hP hD [0, 5, 6, 10] (n := 11) rfl rfl (by decide +kernel)
        refine x_calli (ws' := fun (u : Unit) => (wld_X10_tree cI cJ cZ h_p0 ad_p0 p0_places p0_steps p0_pastFirst p0_past p0_goings p0_rowSize p0_ways p0_hasField p0_fieldSize p0_faultNow p0_hasTree p0_treeSize p0_weightCount p0_roundCount p0_setCount p0_aboveOf p0_colour p0_has p0_isLeaf p0_needs p0_nodes p0_puts p0_sort p0_stepOf p0_takes)) hP hD hS hA [0, 5, 6, 10] [1, 2, 3, 4, 7, 8, 9] [7, 0, 1, 2, 3, 8, 9, 4, 5, 6, 10] (n := 11) (k := 4) rfl (fun _ => rfl) rfl (by decide +kernel) (fun _ => rfl) (va_runV (As := [.int v3, .int v2]) (rest := []) ⟨hx, hb, hml, hown, hts⟩ (c_X10_mayAt (l := l) (dC := dC) (dI := dI) (cI := cI) (cJ := cJ) (cZ := cZ) (sz := H.size) (h_p0 := h_p0) (ad_p0 := ad_p0) (p0_places := p0_places) (p0_steps := p0_steps) (p0_pastFirst := p0_pastFirst) (p0_past := p0_past) (p0_goings := p0_goings) (p0_rowSize := p0_rowSize) (p0_ways := p0_ways) (p0_hasField := p0_hasField) (p0_fieldSize := p0_fieldSize) (p0_faultNow := p0_faultNow) (p0_hasTree := p0_hasTree) (p0_treeSize := p0_treeSize) (p0_weightCount := p0_weightCount) (p0_roundCount := p0_roundCount) (p0_setCount := p0_setCount) (p0_needs := p0_needs) (p0_nodes := p0_nodes) (p0_takes := p0_takes) hw) (cwV 2 hts gX10_tree_X10_mayAt rfl rfl rfl (by decide +kernel) ⟨Nat.le_of_ble_eq_true rfl, Nat.le_of_ble_eq_true rfl⟩) ⟨xPre_blind, va_recv hK hP (ci := 10) (q0 := 0) rfl rfl, xPre_at hK hPc hDc n1 n2⟩ rfl rfl hl.1 rfl (lv_room (Nat.le_of_ble_eq_true rfl)) dX10_tree_121 ⟨Nat.zero_le _, Nat.zero_le _⟩) (fun r20 u H locs hw hP hD hS => ?_)
        try dsimp only at hw
        have hP : va_P (dC, dI) vwCl (wld_X10_tree cI cJ cZ h_p0 ad_p0 p0_places p0_steps p0_pastFirst p0_past p0_goings p0_rowSize p0_ways p0_hasField p0_fieldSize p0_faultNow p0_hasTree p0_treeSize p0_weightCount p0_roundCount p0_setCount p0_aboveOf p0_colour p0_has p0_isLeaf p0_needs p0_nodes p0_puts p0_sort p0_stepOf p0_takes) H := hP
        have hD : va_D A (wld_X10_tree cI cJ cZ h_p0 ad_p0 p0_places p0_steps p0_pastFirst p0_past p0_goings p0_rowSize p0_ways p0_hasField p0_fieldSize p0_faultNow p0_hasTree p0_treeSize p0_weightCount p0_roundCount p0_setCount p0_aboveOf p0_colour p0_has p0_isLeaf p0_needs p0_nodes p0_puts p0_sort p0_stepOf p0_takes) := hD
        refine lv_if_eq (tgt := 154) hx hb dX10_tree_124 (by decide) (fun c21 => ?_) (fun c22 => ?_)
        · have hw := hw.1 c21
          obtain ⟨x23, ex23⟩ : ∃ y : Int32, y = v3 + (1 : Int32) := ⟨_, rfl⟩
          have hw := hw x23 ex23
          refine lv_iinc (v := x23) (lv' := [(3, .int x23), (0, .ref h_p0), (1, .int v1), (2, .int v2)]) hx hb dX10_tree_154 hl (k := 3) rfl (by rw [ex23]; rfl) (by decide) rfl (fun ls hl => ?_)
          refine lv_goto (tgt := 101) hx hb dX10_tree_157 (by decide) ?_
          exact ih _ _ _ _ _ _ hw _ _ _ hP hD hS (lv_sub hl [1, 2, 3, 0] rfl)
        · have hw := hw.2 c22
          refine lv_aload_n hx hb dX10_tree_127 rfl (lv_at hl 0 rfl) ?_
          refine va_get (D := (dC, dI)) (ci := 10) (v := .int p0_treeSize) (C := RX10) (T := TX10) (N := 50) hx hb hts iX10 hown hK hP 0 rfl rfl 35 (by decide) (hts (.fieldLink RX10 140 "NetHouseModel" "treeSize" "I") (by decide +kernel)) (fun _ h9 => h9) rfl dX10_tree_128 ?_
          refine lv_iload_n hx hb dX10_tree_131 rfl (lv_at hl 1 rfl) ?_
          refine lv_icmp_ne (tgt := 148) hx hb dX10_tree_132 (by decide) (fun c24 => ?_) (fun c25 => ?_)
          · have hw := hw.1 c24
            refine lv_aload_n hx hb dX10_tree_148 rfl (lv_at hl 0 rfl) ?_
            refine lv_iload_n hx hb dX10_tree_149 rfl (lv_at hl 2 rfl) ?_
            refine lv_iload_n hx hb dX10_tree_150 rfl (lv_at hl 3 rfl) ?_
            obtain ⟨hPc, hDc⟩ := x_sub (wc := (wld_X10_addNode cI cJ cZ h_p0 ad_p0 p0_places p0_steps p0_pastFirst p0_past p0_goings p0_rowSize p0_ways p0_hasField p0_fieldSize p0_faultNow p0_hasTree p0_treeSize p0_weightCount p0_roundCount p0_setCount p0_aboveOf p0_nodes p0_puts p0_stepOf p0_takes)) hP hD [0, 1, 6, 7, 9, 10] (n := 11) rfl rfl (by decide +kernel)
            refine x_callv (ws' := fun (u : (Int32) × (Nat → Int32) × (Nat → Int32) × (Nat → Int32)) => (wld_X10_tree cI cJ cZ h_p0 ad_p0 p0_places p0_steps p0_pastFirst p0_past p0_goings p0_rowSize p0_ways p0_hasField p0_fieldSize p0_faultNow p0_hasTree (u.1) p0_weightCount p0_roundCount p0_setCount (u.2.1) p0_colour p0_has p0_isLeaf p0_needs (u.2.2.1) p0_puts p0_sort (u.2.2.2) p0_takes)) hP hD hS hA [0, 1, 6, 7, 9, 10] [2, 3, 4, 5, 8] [5, 6, 0, 1, 2, 3, 7, 8, 4, 9, 10] (n := 11) (k := 6) rfl (fun _ => rfl) rfl (by decide +kernel) (fun _ => rfl) (va_runV (As := [.int v2, .int v3]) (rest := []) ⟨hx, hb, hml, hown, hts⟩ (c_X10_addNode (l := l) (dC := dC) (dI := dI) (cI := cI) (cJ := cJ) (cZ := cZ) (sz := H.size) (h_p0 := h_p0) (ad_p0 := ad_p0) (p0_places := p0_places) (p0_steps := p0_steps) (p0_pastFirst := p0_pastFirst) (p0_past := p0_past) (p0_goings := p0_goings) (p0_rowSize := p0_rowSize) (p0_ways := p0_ways) (p0_hasField := p0_hasField) (p0_fieldSize := p0_fieldSize) (p0_faultNow := p0_faultNow) (p0_hasTree := p0_hasTree) (p0_treeSize := p0_treeSize) (p0_weightCount := p0_weightCount) (p0_roundCount := p0_roundCount) (p0_setCount := p0_setCount) (p0_aboveOf := p0_aboveOf) (p0_nodes := p0_nodes) (p0_puts := p0_puts) (p0_stepOf := p0_stepOf) (p0_takes := p0_takes) hw) (cwV 2 hts gX10_tree_X10_addNode rfl rfl rfl (by decide +kernel) ⟨Nat.le_of_ble_eq_true rfl, Nat.le_of_ble_eq_true rfl⟩) ⟨xPre_blind, va_recv hK hP (ci := 10) (q0 := 0) rfl rfl, xPre_at hK hPc hDc n1 n2⟩ rfl rfl hl.1 rfl (lv_room (Nat.le_of_ble_eq_true rfl)) dX10_tree_151 ⟨Nat.zero_le _, Nat.zero_le _⟩) (fun u H locs hw hP hD hS => ?_)
            obtain ⟨y26, y27, y28, y29⟩ := u
            try dsimp only at hw
            have hP : va_P (dC, dI) vwCl (wld_X10_tree cI cJ cZ h_p0 ad_p0 p0_places p0_steps p0_pastFirst p0_past p0_goings p0_rowSize p0_ways p0_hasField p0_fieldSize p0_faultNow p0_hasTree y26 p0_weightCount p0_roundCount p0_setCount y27 p0_colour p0_has p0_isLeaf p0_needs y28 p0_puts p0_sort y29 p0_takes) H := hP
            have hD : va_D A (wld_X10_tree cI cJ cZ h_p0 ad_p0 p0_places p0_steps p0_pastFirst p0_past p0_goings p0_rowSize p0_ways p0_hasField p0_fieldSize p0_faultNow p0_hasTree y26 p0_weightCount p0_roundCount p0_setCount y27 p0_colour p0_has p0_isLeaf p0_needs y28 p0_puts p0_sort y29 p0_takes) := hD
            obtain ⟨x30, ex30⟩ : ∃ y : Int32, y = v3 + (1 : Int32) := ⟨_, rfl⟩
            have hw := hw x30 ex30
            refine lv_iinc (v := x30) (lv' := [(3, .int x30), (0, .ref h_p0), (1, .int v1), (2, .int v2)]) hx hb dX10_tree_154 hl (k := 3) rfl (by rw [ex30]; rfl) (by decide) rfl (fun ls hl => ?_)
            refine lv_goto (tgt := 101) hx hb dX10_tree_157 (by decide) ?_
            exact ih _ _ _ _ _ _ hw _ _ _ hP hD hS (lv_sub hl [1, 2, 3, 0] rfl)
          · have hw := hw.2 c25
            refine lv_aload_n hx hb dX10_tree_135 rfl (lv_at hl 0 rfl) ?_
            refine lv_iconst (v := 0) hx hb dX10_tree_136 (by decide) ?_
            refine va_put (D := (dC, dI)) (ci := 10) (v := .int (0 : Int32)) (ty := .boolean) (C := RX10) (T := TX10) (N := 50) hx hb hts iX10 tyX10 tyX10_ok nmX10 hown hK hP hD hS 0 rfl rfl 34 (by decide) (hts (.fieldLink RX10 137 "NetHouseModel" "hasTree" "Z") (by decide +kernel)) (fun _ h9 => h9) rfl (by decide +kernel) (by decide) (by decide) (Nat.le_of_ble_eq_true rfl) dX10_tree_137 (fun H locs hP hD hS => ?_)
            have hP : va_P (dC, dI) vwCl (wld_X10_tree cI cJ cZ h_p0 ad_p0 p0_places p0_steps p0_pastFirst p0_past p0_goings p0_rowSize p0_ways p0_hasField p0_fieldSize p0_faultNow (0 : Int32) p0_treeSize p0_weightCount p0_roundCount p0_setCount p0_aboveOf p0_colour p0_has p0_isLeaf p0_needs p0_nodes p0_puts p0_sort p0_stepOf p0_takes) H := hP
            have hD : va_D A (wld_X10_tree cI cJ cZ h_p0 ad_p0 p0_places p0_steps p0_pastFirst p0_past p0_goings p0_rowSize p0_ways p0_hasField p0_fieldSize p0_faultNow (0 : Int32) p0_treeSize p0_weightCount p0_roundCount p0_setCount p0_aboveOf p0_colour p0_has p0_isLeaf p0_needs p0_nodes p0_puts p0_sort p0_stepOf p0_takes) := hD
            refine lv_aload_n hx hb dX10_tree_140 rfl (lv_at hl 0 rfl) ?_
            refine lv_iconst (v := 0) hx hb dX10_tree_141 (by decide) ?_
            refine va_put (D := (dC, dI)) (ci := 10) (v := .int (0 : Int32)) (ty := .int) (C := RX10) (T := TX10) (N := 50) hx hb hts iX10 tyX10 tyX10_ok nmX10 hown hK hP hD hS 0 rfl rfl 35 (by decide) (hts (.fieldLink RX10 140 "NetHouseModel" "treeSize" "I") (by decide +kernel)) (fun _ h9 => h9) rfl (by decide +kernel) rfl rfl (Nat.le_of_ble_eq_true rfl) dX10_tree_142 (fun H locs hP hD hS => ?_)
            have hP : va_P (dC, dI) vwCl (wld_X10_tree cI cJ cZ h_p0 ad_p0 p0_places p0_steps p0_pastFirst p0_past p0_goings p0_rowSize p0_ways p0_hasField p0_fieldSize p0_faultNow (0 : Int32) (0 : Int32) p0_weightCount p0_roundCount p0_setCount p0_aboveOf p0_colour p0_has p0_isLeaf p0_needs p0_nodes p0_puts p0_sort p0_stepOf p0_takes) H := hP
            have hD : va_D A (wld_X10_tree cI cJ cZ h_p0 ad_p0 p0_places p0_steps p0_pastFirst p0_past p0_goings p0_rowSize p0_ways p0_hasField p0_fieldSize p0_faultNow (0 : Int32) (0 : Int32) p0_weightCount p0_roundCount p0_setCount p0_aboveOf p0_colour p0_has p0_isLeaf p0_needs p0_nodes p0_puts p0_sort p0_stepOf p0_takes) := hD
            refine lv_ldc (v := -2000000004) hx hb hown (hts (.constant RX10 251 (-2000000004)) (by decide +kernel)) dX10_tree_145 ?_
            exact x_iret (w1 := fun (u : (Int32) × (Int32) × (Nat → Int32) × (Nat → Int32) × (Nat → Int32) × (Nat → Int32)) => (wld_X10_tree cI cJ cZ h_p0 ad_p0 p0_places p0_steps p0_pastFirst p0_past p0_goings p0_rowSize p0_ways p0_hasField p0_fieldSize p0_faultNow (u.1) (u.2.1) p0_weightCount p0_roundCount p0_setCount (u.2.2.1) p0_colour p0_has (u.2.2.2.1) p0_needs (u.2.2.2.2.1) p0_puts p0_sort (u.2.2.2.2.2) p0_takes)) hx hb hr hlocks ((0 : Int32), (0 : Int32), p0_aboveOf, p0_isLeaf, p0_nodes, p0_stepOf) hw hP hD hS dX10_tree_147
set_option maxHeartbeats 4000000 in
set_option maxRecDepth 100000 in
theorem c_X10_tree_L80 {p : Program} {l : Launch} {e : Env} {s : State} {m : MethodId} {args : Array Value} {below : List Frame} {meth : Method} {c : Code} {dC : Nat → ClassId} {dI : Nat → Nat → Nat} {A : Nat → Prop} {cI cJ cZ : ClassId} {h_p0 : Nat} {ad_p0 : Nat → Nat} {p0_places : Int32} {p0_steps : Int32} {p0_pastFirst : Int32} {p0_past : Int32} {p0_goings : Int32} {p0_rowSize : Int32} {p0_ways : Int32} {p0_hasField : Int32} {p0_fieldSize : Int32} {p0_faultNow : Int32} {p0_weightCount : Int32} {p0_roundCount : Int32} {p0_setCount : Int32} {p0_colour : Nat → Int32} {p0_has : Nat → Int32} {p0_needs : Nat → Int32} {p0_puts : Nat → Int32} {p0_sort : Nat → Int32} {p0_takes : Nat → Int32} {v1 : Int32} {z_p0_hasTree : Int32} {z_p0_treeSize : Int32} {z_p0_aboveOf : Nat → Int32} {z_p0_isLeaf : Nat → Int32} {z_p0_nodes : Nat → Int32} {z_p0_stepOf : Nat → Int32} {post : Int32 → (Int32) → (Int32) → (Nat → Int32) → (Nat → Int32) → (Nat → Int32) → (Nat → Int32) → Prop} {K : (Int32) → (Int32) → (Int32) → (Nat → Int32) → (Nat → Int32) → (Nat → Int32) → (Nat → Int32) → Prop} (E0 : xEnv p s m args meth c cX10_tree (some .int) 4 RX10 wsX10_tree (dC, dI) cI cJ cZ A) (hk : ∀ (v2 : Int32) (p0_hasTree : Int32) (p0_treeSize : Int32) (p0_aboveOf : Nat → Int32) (p0_isLeaf : Nat → Int32) (p0_nodes : Nat → Int32) (p0_stepOf : Nat → Int32) (H : Heap) (locs : List Loc) (ls : Array Slot), K v2 p0_hasTree p0_treeSize p0_aboveOf p0_isLeaf p0_nodes p0_stepOf → va_P (dC, dI) vwCl (wld_X10_tree cI cJ cZ h_p0 ad_p0 p0_places p0_steps p0_pastFirst p0_past p0_goings p0_rowSize p0_ways p0_hasField p0_fieldSize p0_faultNow p0_hasTree p0_treeSize p0_weightCount p0_roundCount p0_setCount p0_aboveOf p0_colour p0_has p0_isLeaf p0_needs p0_nodes p0_puts p0_sort p0_stepOf p0_takes) H → va_D A (wld_X10_tree cI cJ cZ h_p0 ad_p0 p0_places p0_steps p0_pastFirst p0_past p0_goings p0_rowSize p0_ways p0_hasField p0_fieldSize p0_faultNow p0_hasTree p0_treeSize p0_weightCount p0_roundCount p0_setCount p0_aboveOf p0_colour p0_has p0_isLeaf p0_needs p0_nodes p0_puts p0_sort p0_stepOf p0_takes) → va_S A s.heap H locs → lv_has ls 4 [(0, .ref h_p0)] → W p l e ({ frames := 4, cells := 0, slots := 0, locals := 94 }) s m args below meth c H locs 0 0 (MQ below (q_X10_tree dC dI cI cJ cZ h_p0 ad_p0 p0_places p0_steps p0_pastFirst p0_past p0_goings p0_rowSize p0_ways p0_hasField p0_fieldSize p0_faultNow z_p0_hasTree z_p0_treeSize p0_weightCount p0_roundCount p0_setCount z_p0_aboveOf p0_colour p0_has z_p0_isLeaf p0_needs z_p0_nodes p0_puts p0_sort z_p0_stepOf p0_takes post A) args s 0 0 A) (F0 m 166 ls [])) : ∀ (n : Nat) (v2 : Int32) (p0_hasTree : Int32) (p0_treeSize : Int32) (p0_aboveOf : Nat → Int32) (p0_isLeaf : Nat → Int32) (p0_nodes : Nat → Int32) (p0_stepOf : Nat → Int32), w_X10_tree_L80 v1 p0_places p0_steps p0_colour p0_has p0_needs p0_puts p0_sort p0_takes post K n v2 p0_hasTree p0_treeSize p0_aboveOf p0_isLeaf p0_nodes p0_stepOf → ∀ (H : Heap) (locs : List Loc) (ls : Array Slot), va_P (dC, dI) vwCl (wld_X10_tree cI cJ cZ h_p0 ad_p0 p0_places p0_steps p0_pastFirst p0_past p0_goings p0_rowSize p0_ways p0_hasField p0_fieldSize p0_faultNow p0_hasTree p0_treeSize p0_weightCount p0_roundCount p0_setCount p0_aboveOf p0_colour p0_has p0_isLeaf p0_needs p0_nodes p0_puts p0_sort p0_stepOf p0_takes) H → va_D A (wld_X10_tree cI cJ cZ h_p0 ad_p0 p0_places p0_steps p0_pastFirst p0_past p0_goings p0_rowSize p0_ways p0_hasField p0_fieldSize p0_faultNow p0_hasTree p0_treeSize p0_weightCount p0_roundCount p0_setCount p0_aboveOf p0_colour p0_has p0_isLeaf p0_needs p0_nodes p0_puts p0_sort p0_stepOf p0_takes) → va_S A s.heap H locs → lv_has ls 4 [(0, .ref h_p0), (1, .int v1), (2, .int v2)] → W p l e ({ frames := 4, cells := 0, slots := 0, locals := 94 }) s m args below meth c H locs 0 0 (MQ below (q_X10_tree dC dI cI cJ cZ h_p0 ad_p0 p0_places p0_steps p0_pastFirst p0_past p0_goings p0_rowSize p0_ways p0_hasField p0_fieldSize p0_faultNow z_p0_hasTree z_p0_treeSize p0_weightCount p0_roundCount p0_setCount z_p0_aboveOf p0_colour p0_has z_p0_isLeaf p0_needs z_p0_nodes p0_puts p0_sort z_p0_stepOf p0_takes post A) args s 0 0 A) (F0 m 80 ls []) := by
  obtain ⟨hx, hb, hr, hml, hown, hts, hlocks, hK, hA, n1, n2⟩ := id E0
  have iX10 : ∀ w ∈ u_ws RX10 TX10 50, w ∈ wsX10_tree := fun w h => List.mem_cons_of_mem _ (List.mem_append_right _ h)
  intro n
  induction n with
  | zero => intro v2 p0_hasTree p0_treeSize p0_aboveOf p0_isLeaf p0_nodes p0_stepOf hw; exact hw.elim
  | succ n ih =>
    intro v2 p0_hasTree p0_treeSize p0_aboveOf p0_isLeaf p0_nodes p0_stepOf hw H locs ls hP hD hS hl
    have hw : w_X10_tree_L80b v1 p0_places p0_steps p0_colour p0_has p0_needs p0_puts p0_sort p0_takes post K (w_X10_tree_L80 v1 p0_places p0_steps p0_colour p0_has p0_needs p0_puts p0_sort p0_takes post K n) v2 p0_hasTree p0_treeSize p0_aboveOf p0_isLeaf p0_nodes p0_stepOf := hw
    unfold w_X10_tree_L80b at hw
    refine lv_iload_n hx hb dX10_tree_80 rfl (lv_at hl 2 rfl) ?_
    refine lv_aload_n hx hb dX10_tree_81 rfl (lv_at hl 0 rfl) ?_
    refine va_get (D := (dC, dI)) (ci := 10) (v := .int p0_treeSize) (C := RX10) (T := TX10) (N := 50) hx hb hts iX10 hown hK hP 0 rfl rfl 35 (by decide) (hts (.fieldLink RX10 140 "NetHouseModel" "treeSize" "I") (by decide +kernel)) (fun _ h9 => h9) rfl dX10_tree_82 ?_
    refine lv_icmp_ge (tgt := 166) hx hb dX10_tree_85 (by decide) (fun c13 => ?_) (fun c14 => ?_)
    · have hw := hw.1 c13
      exact hk _ _ _ _ _ _ _ _ _ _ hw hP hD hS (lv_sub hl [0] rfl)
    · have hw := hw.2 c14
      refine lv_aload_n hx hb dX10_tree_88 rfl (lv_at hl 0 rfl) ?_
      refine va_get (D := (dC, dI)) (ci := 10) (v := .ref (ad_p0 39)) (C := RX10) (T := TX10) (N := 50) hx hb hts iX10 hown hK hP 0 rfl rfl 39 (by decide) (hts (.fieldLink RX10 99 "NetHouseModel" "isLeaf" "[Z") (by decide +kernel)) (fun _ h9 => h9) rfl dX10_tree_89 ?_
      refine lv_iload_n hx hb dX10_tree_92 rfl (lv_at hl 2 rfl) ?_
      refine lv_aload_n hx hb dX10_tree_93 rfl (lv_at hl 0 rfl) ?_
      refine lv_iload_n hx hb dX10_tree_94 rfl (lv_at hl 2 rfl) ?_
      obtain ⟨hPc, hDc⟩ := x_sub (wc := (wld_X10_isTwice cI cJ cZ h_p0 ad_p0 p0_places p0_steps p0_pastFirst p0_past p0_goings p0_rowSize p0_ways p0_hasField p0_fieldSize p0_faultNow p0_hasTree p0_treeSize p0_weightCount p0_roundCount p0_setCount p0_nodes)) hP hD [0, 6] (n := 11) rfl rfl (by decide +kernel)
      refine x_calli (ws' := fun (u : Unit) => (wld_X10_tree cI cJ cZ h_p0 ad_p0 p0_places p0_steps p0_pastFirst p0_past p0_goings p0_rowSize p0_ways p0_hasField p0_fieldSize p0_faultNow p0_hasTree p0_treeSize p0_weightCount p0_roundCount p0_setCount p0_aboveOf p0_colour p0_has p0_isLeaf p0_needs p0_nodes p0_puts p0_sort p0_stepOf p0_takes)) hP hD hS hA [0, 6] [1, 2, 3, 4, 5, 7, 8, 9, 10] [9, 0, 1, 2, 3, 4, 10, 5, 6, 7, 8] (n := 11) (k := 2) rfl (fun _ => rfl) rfl (by decide +kernel) (fun _ => rfl) (va_runV (As := [.int v2]) (rest := [.int v2, .ref (ad_p0 39)]) ⟨hx, hb, hml, hown, hts⟩ (c_X10_isTwice (l := l) (dC := dC) (dI := dI) (cI := cI) (cJ := cJ) (cZ := cZ) (sz := H.size) (h_p0 := h_p0) (ad_p0 := ad_p0) (p0_places := p0_places) (p0_steps := p0_steps) (p0_pastFirst := p0_pastFirst) (p0_past := p0_past) (p0_goings := p0_goings) (p0_rowSize := p0_rowSize) (p0_ways := p0_ways) (p0_hasField := p0_hasField) (p0_fieldSize := p0_fieldSize) (p0_faultNow := p0_faultNow) (p0_hasTree := p0_hasTree) (p0_treeSize := p0_treeSize) (p0_weightCount := p0_weightCount) (p0_roundCount := p0_roundCount) (p0_setCount := p0_setCount) (p0_nodes := p0_nodes) hw) (cwV 1 hts gX10_tree_X10_isTwice rfl rfl rfl (by decide +kernel) ⟨Nat.le_of_ble_eq_true rfl, Nat.le_of_ble_eq_true rfl⟩) ⟨xPre_blind, va_recv hK hP (ci := 10) (q0 := 0) rfl rfl, xPre_at hK hPc hDc n1 n2⟩ rfl rfl hl.1 rfl (lv_room (Nat.le_of_ble_eq_true rfl)) dX10_tree_95 ⟨Nat.zero_le _, Nat.zero_le _⟩) (fun r15 u H locs hw hP hD hS => ?_)
      try dsimp only at hw
      have hP : va_P (dC, dI) vwCl (wld_X10_tree cI cJ cZ h_p0 ad_p0 p0_places p0_steps p0_pastFirst p0_past p0_goings p0_rowSize p0_ways p0_hasField p0_fieldSize p0_faultNow p0_hasTree p0_treeSize p0_weightCount p0_roundCount p0_setCount p0_aboveOf p0_colour p0_has p0_isLeaf p0_needs p0_nodes p0_puts p0_sort p0_stepOf p0_takes) H := hP
      have hD : va_D A (wld_X10_tree cI cJ cZ h_p0 ad_p0 p0_places p0_steps p0_pastFirst p0_past p0_goings p0_rowSize p0_ways p0_hasField p0_fieldSize p0_faultNow p0_hasTree p0_treeSize p0_weightCount p0_roundCount p0_setCount p0_aboveOf p0_colour p0_has p0_isLeaf p0_needs p0_nodes p0_puts p0_sort p0_stepOf p0_takes) := hD
      refine va_zast hx hb hK hP hD hS 4 2 rfl rfl hw.1 dX10_tree_98 (fun H locs hP hD hS => ?_)
      have hw := hw.2
      have hP : va_P (dC, dI) vwCl (wld_X10_tree cI cJ cZ h_p0 ad_p0 p0_places p0_steps p0_pastFirst p0_past p0_goings p0_rowSize p0_ways p0_hasField p0_fieldSize p0_faultNow p0_hasTree p0_treeSize p0_weightCount p0_roundCount p0_setCount p0_aboveOf p0_colour p0_has (upd p0_isLeaf v2.toNatClampNeg (vp_nar .boolean r15)) p0_needs p0_nodes p0_puts p0_sort p0_stepOf p0_takes) H := hP
      have hD : va_D A (wld_X10_tree cI cJ cZ h_p0 ad_p0 p0_places p0_steps p0_pastFirst p0_past p0_goings p0_rowSize p0_ways p0_hasField p0_fieldSize p0_faultNow p0_hasTree p0_treeSize p0_weightCount p0_roundCount p0_setCount p0_aboveOf p0_colour p0_has (upd p0_isLeaf v2.toNatClampNeg (vp_nar .boolean r15)) p0_needs p0_nodes p0_puts p0_sort p0_stepOf p0_takes) := hD
      refine lv_iconst (v := 0) hx hb dX10_tree_99 (by decide) ?_
      refine lv_istore_n (lv' := [(3, .int (0 : Int32)), (0, .ref h_p0), (1, .int v1), (2, .int v2)]) hx hb dX10_tree_100 rfl hl (by decide) rfl (fun ls hl => ?_)
      obtain ⟨n31, hw⟩ := hw
      refine c_X10_tree_L101 (l := l) (z_p0_hasTree := p0_hasTree) (z_p0_treeSize := p0_treeSize) (z_p0_aboveOf := p0_aboveOf) (z_p0_nodes := p0_nodes) (z_p0_stepOf := p0_stepOf) E0 ?_ n31 _ _ _ _ _ _ hw _ _ _ hP hD hS (lv_sub hl [1, 2, 3, 0] rfl)
      · intro v32 s33 s34 s35 s36 s37 H locs ls hw hP hD hS hl
        have hP : va_P (dC, dI) vwCl (wld_X10_tree cI cJ cZ h_p0 ad_p0 p0_places p0_steps p0_pastFirst p0_past p0_goings p0_rowSize p0_ways p0_hasField p0_fieldSize p0_faultNow s33 s34 p0_weightCount p0_roundCount p0_setCount s35 p0_colour p0_has (upd p0_isLeaf v2.toNatClampNeg (vp_nar .boolean r15)) p0_needs s36 p0_puts p0_sort s37 p0_takes) H := hP
        have hD : va_D A (wld_X10_tree cI cJ cZ h_p0 ad_p0 p0_places p0_steps p0_pastFirst p0_past p0_goings p0_rowSize p0_ways p0_hasField p0_fieldSize p0_faultNow s33 s34 p0_weightCount p0_roundCount p0_setCount s35 p0_colour p0_has (upd p0_isLeaf v2.toNatClampNeg (vp_nar .boolean r15)) p0_needs s36 p0_puts p0_sort s37 p0_takes) := hD
        obtain ⟨x38, ex38⟩ : ∃ y : Int32, y = v2 + (1 : Int32) := ⟨_, rfl⟩
        have hw := hw x38 ex38
        refine lv_iinc (v := x38) (lv' := [(2, .int x38), (0, .ref h_p0), (1, .int v1)]) hx hb dX10_tree_160 hl (k := 2) rfl (by rw [ex38]; rfl) (by decide) rfl (fun ls hl => ?_)
        refine lv_goto (tgt := 80) hx hb dX10_tree_163 (by decide) ?_
        exact ih _ _ _ _ _ _ _ hw _ _ _ hP hD hS (lv_sub hl [1, 2, 0] rfl)
set_option maxHeartbeats 4000000 in
set_option maxRecDepth 100000 in
theorem c_X10_tree {l : Launch} {dC : Nat → ClassId} {dI : Nat → Nat → Nat} {sz : Nat} {cI cJ cZ : ClassId} {h_p0 : Nat} {ad_p0 : Nat → Nat} {p0_places : Int32} {p0_steps : Int32} {p0_pastFirst : Int32} {p0_past : Int32} {p0_goings : Int32} {p0_rowSize : Int32} {p0_ways : Int32} {p0_hasField : Int32} {p0_fieldSize : Int32} {p0_faultNow : Int32} {p0_hasTree : Int32} {p0_treeSize : Int32} {p0_weightCount : Int32} {p0_roundCount : Int32} {p0_setCount : Int32} {p0_aboveOf : Nat → Int32} {p0_colour : Nat → Int32} {p0_has : Nat → Int32} {p0_isLeaf : Nat → Int32} {p0_needs : Nat → Int32} {p0_nodes : Nat → Int32} {p0_puts : Nat → Int32} {p0_sort : Nat → Int32} {p0_stepOf : Nat → Int32} {p0_takes : Nat → Int32} {a1 : Int32} {post : Int32 → (Int32) → (Int32) → (Nat → Int32) → (Nat → Int32) → (Nat → Int32) → (Nat → Int32) → Prop} (hw : w_X10_tree p0_hasTree p0_places p0_steps p0_treeSize p0_aboveOf p0_colour p0_has p0_isLeaf p0_needs p0_nodes p0_puts p0_sort p0_stepOf p0_takes a1 post) : Met l yX10_tree wsX10_tree ({ frames := 4, cells := 0, slots := 0, locals := 94 }) (va_Pc [.ref h_p0, .int a1] (xPre (dC, dI) cI cJ cZ (wld_X10_tree cI cJ cZ h_p0 ad_p0 p0_places p0_steps p0_pastFirst p0_past p0_goings p0_rowSize p0_ways p0_hasField p0_fieldSize p0_faultNow p0_hasTree p0_treeSize p0_weightCount p0_roundCount p0_setCount p0_aboveOf p0_colour p0_has p0_isLeaf p0_needs p0_nodes p0_puts p0_sort p0_stepOf p0_takes) sz)) (q_X10_tree dC dI cI cJ cZ h_p0 ad_p0 p0_places p0_steps p0_pastFirst p0_past p0_goings p0_rowSize p0_ways p0_hasField p0_fieldSize p0_faultNow p0_hasTree p0_treeSize p0_weightCount p0_roundCount p0_setCount p0_aboveOf p0_colour p0_has p0_isLeaf p0_needs p0_nodes p0_puts p0_sort p0_stepOf p0_takes post (va_A (wld_X10_tree cI cJ cZ h_p0 ad_p0 p0_places p0_steps p0_pastFirst p0_past p0_goings p0_rowSize p0_ways p0_hasField p0_fieldSize p0_faultNow p0_hasTree p0_treeSize p0_weightCount p0_roundCount p0_setCount p0_aboveOf p0_colour p0_has p0_isLeaf p0_needs p0_nodes p0_puts p0_sort p0_stepOf p0_takes) sz)) 0 0 (va_A (wld_X10_tree cI cJ cZ h_p0 ad_p0 p0_places p0_steps p0_pastFirst p0_past p0_goings p0_rowSize p0_ways p0_hasField p0_fieldSize p0_faultNow p0_hasTree p0_treeSize p0_weightCount p0_roundCount p0_setCount p0_aboveOf p0_colour p0_has p0_isLeaf p0_needs p0_nodes p0_puts p0_sort p0_stepOf p0_takes) sz) := by
  refine x_met (cc := cX10_tree) (maxL := 4) (ret := (some .int)) (own := RX10) (Qc := fun A => (q_X10_tree dC dI cI cJ cZ h_p0 ad_p0 p0_places p0_steps p0_pastFirst p0_past p0_goings p0_rowSize p0_ways p0_hasField p0_fieldSize p0_faultNow p0_hasTree p0_treeSize p0_weightCount p0_roundCount p0_setCount p0_aboveOf p0_colour p0_has p0_isLeaf p0_needs p0_nodes p0_puts p0_sort p0_stepOf p0_takes post A)) (by decide) rfl rfl (Nat.le_of_ble_eq_true rfl) ?_
  intro p e s m args below meth c A ls E0 hP hD hS hl
  obtain ⟨hx, hb, hr, hml, hown, hts, hlocks, hK, hA, n1, n2⟩ := id E0
  have iX10 : ∀ w ∈ u_ws RX10 TX10 50, w ∈ wsX10_tree := fun w h => List.mem_cons_of_mem _ (List.mem_append_right _ h)
  have hS0 := hS
  have hl : lv_has ls 4 [(0, .ref h_p0), (1, .int a1)] := hl
  unfold w_X10_tree at hw
  obtain ⟨H, hH⟩ : ∃ H, H = s.heap := ⟨_, rfl⟩
  have hS : va_S A s.heap H [] := by rw [hH]; exact hS
  have hP : va_P (dC, dI) vwCl (wld_X10_tree cI cJ cZ h_p0 ad_p0 p0_places p0_steps p0_pastFirst p0_past p0_goings p0_rowSize p0_ways p0_hasField p0_fieldSize p0_faultNow p0_hasTree p0_treeSize p0_weightCount p0_roundCount p0_setCount p0_aboveOf p0_colour p0_has p0_isLeaf p0_needs p0_nodes p0_puts p0_sort p0_stepOf p0_takes) H := by rw [hH]; exact hP
  suffices hG : W p l e ({ frames := 4, cells := 0, slots := 0, locals := 94 }) s m args below meth c H [] 0 0 (MQ below (q_X10_tree dC dI cI cJ cZ h_p0 ad_p0 p0_places p0_steps p0_pastFirst p0_past p0_goings p0_rowSize p0_ways p0_hasField p0_fieldSize p0_faultNow p0_hasTree p0_treeSize p0_weightCount p0_roundCount p0_setCount p0_aboveOf p0_colour p0_has p0_isLeaf p0_needs p0_nodes p0_puts p0_sort p0_stepOf p0_takes post A) args s 0 0 A) (F0 m 0 ls []) by rw [hH] at hG; exact hG
  clear hH
  refine lv_iload_n hx hb dX10_tree_0 rfl (lv_at hl 1 rfl) ?_
  refine lv_iconst (v := 1) hx hb dX10_tree_1 (by decide) ?_
  refine lv_sipush (v := 2000) hx hb dX10_tree_2 (by decide) ?_
  obtain ⟨hPc, hDc⟩ := x_sub (wc := (wld_X10_isIn cI cJ cZ )) hP hD [] (n := 11) rfl rfl (by decide +kernel)
  refine x_calli (ws' := fun (u : Unit) => (wld_X10_tree cI cJ cZ h_p0 ad_p0 p0_places p0_steps p0_pastFirst p0_past p0_goings p0_rowSize p0_ways p0_hasField p0_fieldSize p0_faultNow p0_hasTree p0_treeSize p0_weightCount p0_roundCount p0_setCount p0_aboveOf p0_colour p0_has p0_isLeaf p0_needs p0_nodes p0_puts p0_sort p0_stepOf p0_takes)) hP hD hS hA [] [0, 1, 2, 3, 4, 5, 6, 7, 8, 9, 10] [0, 1, 2, 3, 4, 5, 6, 7, 8, 9, 10] (n := 11) (k := 0) rfl (fun _ => rfl) rfl (by decide +kernel) (fun _ => rfl) (va_runS (As := [.int a1, .int (1 : Int32), .int (2000 : Int32)]) (rest := []) ⟨hx, hb, hml, hown, hts⟩ (c_X10_isIn (l := l) (dC := dC) (dI := dI) (cI := cI) (cJ := cJ) (cZ := cZ) (sz := H.size) hw) (va_cwS 3 hts gX10_tree_X10_isIn rfl rfl rfl (by decide +kernel) ⟨Nat.le_of_ble_eq_true rfl, Nat.le_of_ble_eq_true rfl⟩) ⟨xPre_blind, xPre_at hK hPc hDc n1 n2⟩ rfl rfl hl.1 rfl (lv_room (Nat.le_of_ble_eq_true rfl)) dX10_tree_5 ⟨Nat.zero_le _, Nat.zero_le _⟩) (fun r1 u H locs hw hP hD hS => ?_)
  try dsimp only at hw
  have hP : va_P (dC, dI) vwCl (wld_X10_tree cI cJ cZ h_p0 ad_p0 p0_places p0_steps p0_pastFirst p0_past p0_goings p0_rowSize p0_ways p0_hasField p0_fieldSize p0_faultNow p0_hasTree p0_treeSize p0_weightCount p0_roundCount p0_setCount p0_aboveOf p0_colour p0_has p0_isLeaf p0_needs p0_nodes p0_puts p0_sort p0_stepOf p0_takes) H := hP
  have hD : va_D A (wld_X10_tree cI cJ cZ h_p0 ad_p0 p0_places p0_steps p0_pastFirst p0_past p0_goings p0_rowSize p0_ways p0_hasField p0_fieldSize p0_faultNow p0_hasTree p0_treeSize p0_weightCount p0_roundCount p0_setCount p0_aboveOf p0_colour p0_has p0_isLeaf p0_needs p0_nodes p0_puts p0_sort p0_stepOf p0_takes) := hD
  refine lv_if_ne (tgt := 14) hx hb dX10_tree_8 (by decide) (fun c2 => ?_) (fun c3 => ?_)
  · have hw := hw.1 c2
    refine lv_aload_n hx hb dX10_tree_14 rfl (lv_at hl 0 rfl) ?_
    obtain ⟨hPc, hDc⟩ := x_sub (wc := (wld_X10_isPlainNet cI cJ cZ h_p0 ad_p0 p0_places p0_steps p0_pastFirst p0_past p0_goings p0_rowSize p0_ways p0_hasField p0_fieldSize p0_faultNow p0_hasTree p0_treeSize p0_weightCount p0_roundCount p0_setCount p0_colour p0_sort)) hP hD [0, 2, 8] (n := 11) rfl rfl (by decide +kernel)
    refine x_calli (ws' := fun (u : Unit) => (wld_X10_tree cI cJ cZ h_p0 ad_p0 p0_places p0_steps p0_pastFirst p0_past p0_goings p0_rowSize p0_ways p0_hasField p0_fieldSize p0_faultNow p0_hasTree p0_treeSize p0_weightCount p0_roundCount p0_setCount p0_aboveOf p0_colour p0_has p0_isLeaf p0_needs p0_nodes p0_puts p0_sort p0_stepOf p0_takes)) hP hD hS hA [0, 2, 8] [1, 3, 4, 5, 6, 7, 9, 10] [8, 0, 9, 1, 2, 3, 4, 5, 10, 6, 7] (n := 11) (k := 3) rfl (fun _ => rfl) rfl (by decide +kernel) (fun _ => rfl) (va_runV (As := []) (rest := []) ⟨hx, hb, hml, hown, hts⟩ (c_X10_isPlainNet (l := l) (dC := dC) (dI := dI) (cI := cI) (cJ := cJ) (cZ := cZ) (sz := H.size) (h_p0 := h_p0) (ad_p0 := ad_p0) (p0_places := p0_places) (p0_steps := p0_steps) (p0_pastFirst := p0_pastFirst) (p0_past := p0_past) (p0_goings := p0_goings) (p0_rowSize := p0_rowSize) (p0_ways := p0_ways) (p0_hasField := p0_hasField) (p0_fieldSize := p0_fieldSize) (p0_faultNow := p0_faultNow) (p0_hasTree := p0_hasTree) (p0_treeSize := p0_treeSize) (p0_weightCount := p0_weightCount) (p0_roundCount := p0_roundCount) (p0_setCount := p0_setCount) (p0_colour := p0_colour) (p0_sort := p0_sort) hw) (cwV 0 hts gX10_tree_X10_isPlainNet rfl rfl rfl (by decide +kernel) ⟨Nat.le_of_ble_eq_true rfl, Nat.le_of_ble_eq_true rfl⟩) ⟨xPre_blind, va_recv hK hP (ci := 10) (q0 := 0) rfl rfl, xPre_at hK hPc hDc n1 n2⟩ rfl rfl hl.1 rfl (lv_room (Nat.le_of_ble_eq_true rfl)) dX10_tree_15 ⟨Nat.zero_le _, Nat.zero_le _⟩) (fun r4 u H locs hw hP hD hS => ?_)
    try dsimp only at hw
    have hP : va_P (dC, dI) vwCl (wld_X10_tree cI cJ cZ h_p0 ad_p0 p0_places p0_steps p0_pastFirst p0_past p0_goings p0_rowSize p0_ways p0_hasField p0_fieldSize p0_faultNow p0_hasTree p0_treeSize p0_weightCount p0_roundCount p0_setCount p0_aboveOf p0_colour p0_has p0_isLeaf p0_needs p0_nodes p0_puts p0_sort p0_stepOf p0_takes) H := hP
    have hD : va_D A (wld_X10_tree cI cJ cZ h_p0 ad_p0 p0_places p0_steps p0_pastFirst p0_past p0_goings p0_rowSize p0_ways p0_hasField p0_fieldSize p0_faultNow p0_hasTree p0_treeSize p0_weightCount p0_roundCount p0_setCount p0_aboveOf p0_colour p0_has p0_isLeaf p0_needs p0_nodes p0_puts p0_sort p0_stepOf p0_takes) := hD
    refine lv_if_ne (tgt := 24) hx hb dX10_tree_18 (by decide) (fun c5 => ?_) (fun c6 => ?_)
    · have hw := hw.1 c5
      refine lv_iconst (v := 0) hx hb dX10_tree_24 (by decide) ?_
      refine lv_istore_n (lv' := [(2, .int (0 : Int32)), (0, .ref h_p0), (1, .int a1)]) hx hb dX10_tree_25 rfl hl (by decide) rfl (fun ls hl => ?_)
      obtain ⟨n10, hw⟩ := hw
      refine c_X10_tree_L26 (l := l) (z_p0_nodes := p0_nodes) E0 ?_ n10 _ _ hw _ _ _ hP hD hS (lv_sub hl [1, 2, 0] rfl)
      · intro v11 s12 H locs ls hw hP hD hS hl
        have hP : va_P (dC, dI) vwCl (wld_X10_tree cI cJ cZ h_p0 ad_p0 p0_places p0_steps p0_pastFirst p0_past p0_goings p0_rowSize p0_ways p0_hasField p0_fieldSize p0_faultNow p0_hasTree p0_treeSize p0_weightCount p0_roundCount p0_setCount p0_aboveOf p0_colour p0_has p0_isLeaf p0_needs s12 p0_puts p0_sort p0_stepOf p0_takes) H := hP
        have hD : va_D A (wld_X10_tree cI cJ cZ h_p0 ad_p0 p0_places p0_steps p0_pastFirst p0_past p0_goings p0_rowSize p0_ways p0_hasField p0_fieldSize p0_faultNow p0_hasTree p0_treeSize p0_weightCount p0_roundCount p0_setCount p0_aboveOf p0_colour p0_has p0_isLeaf p0_needs s12 p0_puts p0_sort p0_stepOf p0_takes) := hD
        refine lv_aload_n hx hb dX10_tree_52 rfl (lv_at hl 0 rfl) ?_
        refine va_get (D := (dC, dI)) (ci := 10) (v := .ref (ad_p0 37)) (C := RX10) (T := TX10) (N := 50) hx hb hts iX10 hown hK hP 0 rfl rfl 37 (by decide) (hts (.fieldLink RX10 93 "NetHouseModel" "aboveOf" "[I") (by decide +kernel)) (fun _ h9 => h9) rfl dX10_tree_53 ?_
        refine lv_iconst (v := 0) hx hb dX10_tree_56 (by decide) ?_
        refine lv_ldc (v := -2000000005) hx hb hown (hts (.constant RX10 85 (-2000000005)) (by decide +kernel)) dX10_tree_57 ?_
        refine va_iast hx hb hK hP hD hS 1 0 rfl rfl hw.1 dX10_tree_59 (fun H locs hP hD hS => ?_)
        have hw := hw.2
        have hP : va_P (dC, dI) vwCl (wld_X10_tree cI cJ cZ h_p0 ad_p0 p0_places p0_steps p0_pastFirst p0_past p0_goings p0_rowSize p0_ways p0_hasField p0_fieldSize p0_faultNow p0_hasTree p0_treeSize p0_weightCount p0_roundCount p0_setCount (upd p0_aboveOf (0 : Int32).toNatClampNeg (-2000000005 : Int32)) p0_colour p0_has p0_isLeaf p0_needs s12 p0_puts p0_sort p0_stepOf p0_takes) H := hP
        have hD : va_D A (wld_X10_tree cI cJ cZ h_p0 ad_p0 p0_places p0_steps p0_pastFirst p0_past p0_goings p0_rowSize p0_ways p0_hasField p0_fieldSize p0_faultNow p0_hasTree p0_treeSize p0_weightCount p0_roundCount p0_setCount (upd p0_aboveOf (0 : Int32).toNatClampNeg (-2000000005 : Int32)) p0_colour p0_has p0_isLeaf p0_needs s12 p0_puts p0_sort p0_stepOf p0_takes) := hD
        refine lv_aload_n hx hb dX10_tree_60 rfl (lv_at hl 0 rfl) ?_
        refine va_get (D := (dC, dI)) (ci := 10) (v := .ref (ad_p0 38)) (C := RX10) (T := TX10) (N := 50) hx hb hts iX10 hown hK hP 0 rfl rfl 38 (by decide) (hts (.fieldLink RX10 96 "NetHouseModel" "stepOf" "[I") (by decide +kernel)) (fun _ h9 => h9) rfl dX10_tree_61 ?_
        refine lv_iconst (v := 0) hx hb dX10_tree_64 (by decide) ?_
        refine lv_ldc (v := -2000000005) hx hb hown (hts (.constant RX10 85 (-2000000005)) (by decide +kernel)) dX10_tree_65 ?_
        refine va_iast hx hb hK hP hD hS 9 0 rfl rfl hw.1 dX10_tree_67 (fun H locs hP hD hS => ?_)
        have hw := hw.2
        have hP : va_P (dC, dI) vwCl (wld_X10_tree cI cJ cZ h_p0 ad_p0 p0_places p0_steps p0_pastFirst p0_past p0_goings p0_rowSize p0_ways p0_hasField p0_fieldSize p0_faultNow p0_hasTree p0_treeSize p0_weightCount p0_roundCount p0_setCount (upd p0_aboveOf (0 : Int32).toNatClampNeg (-2000000005 : Int32)) p0_colour p0_has p0_isLeaf p0_needs s12 p0_puts p0_sort (upd p0_stepOf (0 : Int32).toNatClampNeg (-2000000005 : Int32)) p0_takes) H := hP
        have hD : va_D A (wld_X10_tree cI cJ cZ h_p0 ad_p0 p0_places p0_steps p0_pastFirst p0_past p0_goings p0_rowSize p0_ways p0_hasField p0_fieldSize p0_faultNow p0_hasTree p0_treeSize p0_weightCount p0_roundCount p0_setCount (upd p0_aboveOf (0 : Int32).toNatClampNeg (-2000000005 : Int32)) p0_colour p0_has p0_isLeaf p0_needs s12 p0_puts p0_sort (upd p0_stepOf (0 : Int32).toNatClampNeg (-2000000005 : Int32)) p0_takes) := hD
        refine lv_aload_n hx hb dX10_tree_68 rfl (lv_at hl 0 rfl) ?_
        refine lv_iconst (v := 1) hx hb dX10_tree_69 (by decide) ?_
        refine va_put (D := (dC, dI)) (ci := 10) (v := .int (1 : Int32)) (ty := .int) (C := RX10) (T := TX10) (N := 50) hx hb hts iX10 tyX10 tyX10_ok nmX10 hown hK hP hD hS 0 rfl rfl 35 (by decide) (hts (.fieldLink RX10 140 "NetHouseModel" "treeSize" "I") (by decide +kernel)) (fun _ h9 => h9) rfl (by decide +kernel) rfl rfl (Nat.le_of_ble_eq_true rfl) dX10_tree_70 (fun H locs hP hD hS => ?_)
        have hP : va_P (dC, dI) vwCl (wld_X10_tree cI cJ cZ h_p0 ad_p0 p0_places p0_steps p0_pastFirst p0_past p0_goings p0_rowSize p0_ways p0_hasField p0_fieldSize p0_faultNow p0_hasTree (1 : Int32) p0_weightCount p0_roundCount p0_setCount (upd p0_aboveOf (0 : Int32).toNatClampNeg (-2000000005 : Int32)) p0_colour p0_has p0_isLeaf p0_needs s12 p0_puts p0_sort (upd p0_stepOf (0 : Int32).toNatClampNeg (-2000000005 : Int32)) p0_takes) H := hP
        have hD : va_D A (wld_X10_tree cI cJ cZ h_p0 ad_p0 p0_places p0_steps p0_pastFirst p0_past p0_goings p0_rowSize p0_ways p0_hasField p0_fieldSize p0_faultNow p0_hasTree (1 : Int32) p0_weightCount p0_roundCount p0_setCount (upd p0_aboveOf (0 : Int32).toNatClampNeg (-2000000005 : Int32)) p0_colour p0_has p0_isLeaf p0_needs s12 p0_puts p0_sort (upd p0_stepOf (0 : Int32).toNatClampNeg (-2000000005 : Int32)) p0_takes) := hD
        refine lv_aload_n hx hb dX10_tree_73 rfl (lv_at hl 0 rfl) ?_
        refine lv_iconst (v := 1) hx hb dX10_tree_74 (by decide) ?_
        refine va_put (D := (dC, dI)) (ci := 10) (v := .int (1 : Int32)) (ty := .boolean) (C := RX10) (T := TX10) (N := 50) hx hb hts iX10 tyX10 tyX10_ok nmX10 hown hK hP hD hS 0 rfl rfl 34 (by decide) (hts (.fieldLink RX10 137 "NetHouseModel" "hasTree" "Z") (by decide +kernel)) (fun _ h9 => h9) rfl (by decide +kernel) (by decide) (by decide) (Nat.le_of_ble_eq_true rfl) dX10_tree_75 (fun H locs hP hD hS => ?_)
        have hP : va_P (dC, dI) vwCl (wld_X10_tree cI cJ cZ h_p0 ad_p0 p0_places p0_steps p0_pastFirst p0_past p0_goings p0_rowSize p0_ways p0_hasField p0_fieldSize p0_faultNow (1 : Int32) (1 : Int32) p0_weightCount p0_roundCount p0_setCount (upd p0_aboveOf (0 : Int32).toNatClampNeg (-2000000005 : Int32)) p0_colour p0_has p0_isLeaf p0_needs s12 p0_puts p0_sort (upd p0_stepOf (0 : Int32).toNatClampNeg (-2000000005 : Int32)) p0_takes) H := hP
        have hD : va_D A (wld_X10_tree cI cJ cZ h_p0 ad_p0 p0_places p0_steps p0_pastFirst p0_past p0_goings p0_rowSize p0_ways p0_hasField p0_fieldSize p0_faultNow (1 : Int32) (1 : Int32) p0_weightCount p0_roundCount p0_setCount (upd p0_aboveOf (0 : Int32).toNatClampNeg (-2000000005 : Int32)) p0_colour p0_has p0_isLeaf p0_needs s12 p0_puts p0_sort (upd p0_stepOf (0 : Int32).toNatClampNeg (-2000000005 : Int32)) p0_takes) := hD
        refine lv_iconst (v := 0) hx hb dX10_tree_78 (by decide) ?_
        refine lv_istore_n (lv' := [(2, .int (0 : Int32)), (0, .ref h_p0), (1, .int a1)]) hx hb dX10_tree_79 rfl hl (by decide) rfl (fun ls hl => ?_)
        obtain ⟨n39, hw⟩ := hw
        refine c_X10_tree_L80 (l := l) (z_p0_hasTree := (1 : Int32)) (z_p0_treeSize := (1 : Int32)) (z_p0_aboveOf := (upd p0_aboveOf (0 : Int32).toNatClampNeg (-2000000005 : Int32))) (z_p0_isLeaf := p0_isLeaf) (z_p0_nodes := s12) (z_p0_stepOf := (upd p0_stepOf (0 : Int32).toNatClampNeg (-2000000005 : Int32))) E0 ?_ n39 _ _ _ _ _ _ _ hw _ _ _ hP hD hS (lv_sub hl [1, 2, 0] rfl)
        · intro v40 s41 s42 s43 s44 s45 s46 H locs ls hw hP hD hS hl
          have hP : va_P (dC, dI) vwCl (wld_X10_tree cI cJ cZ h_p0 ad_p0 p0_places p0_steps p0_pastFirst p0_past p0_goings p0_rowSize p0_ways p0_hasField p0_fieldSize p0_faultNow s41 s42 p0_weightCount p0_roundCount p0_setCount s43 p0_colour p0_has s44 p0_needs s45 p0_puts p0_sort s46 p0_takes) H := hP
          have hD : va_D A (wld_X10_tree cI cJ cZ h_p0 ad_p0 p0_places p0_steps p0_pastFirst p0_past p0_goings p0_rowSize p0_ways p0_hasField p0_fieldSize p0_faultNow s41 s42 p0_weightCount p0_roundCount p0_setCount s43 p0_colour p0_has s44 p0_needs s45 p0_puts p0_sort s46 p0_takes) := hD
          refine lv_aload_n hx hb dX10_tree_166 rfl (lv_at hl 0 rfl) ?_
          refine va_get (D := (dC, dI)) (ci := 10) (v := .int s42) (C := RX10) (T := TX10) (N := 50) hx hb hts iX10 hown hK hP 0 rfl rfl 35 (by decide) (hts (.fieldLink RX10 140 "NetHouseModel" "treeSize" "I") (by decide +kernel)) (fun _ h9 => h9) rfl dX10_tree_167 ?_
          exact x_iret (w1 := fun (u : (Int32) × (Int32) × (Nat → Int32) × (Nat → Int32) × (Nat → Int32) × (Nat → Int32)) => (wld_X10_tree cI cJ cZ h_p0 ad_p0 p0_places p0_steps p0_pastFirst p0_past p0_goings p0_rowSize p0_ways p0_hasField p0_fieldSize p0_faultNow (u.1) (u.2.1) p0_weightCount p0_roundCount p0_setCount (u.2.2.1) p0_colour p0_has (u.2.2.2.1) p0_needs (u.2.2.2.2.1) p0_puts p0_sort (u.2.2.2.2.2) p0_takes)) hx hb hr hlocks (s41, s42, s43, s44, s45, s46) hw hP hD hS dX10_tree_170
    · have hw := hw.2 c6
      refine lv_ldc (v := -2000000002) hx hb hown (hts (.constant RX10 171 (-2000000002)) (by decide +kernel)) dX10_tree_21 ?_
      exact x_iret (w1 := fun (u : (Int32) × (Int32) × (Nat → Int32) × (Nat → Int32) × (Nat → Int32) × (Nat → Int32)) => (wld_X10_tree cI cJ cZ h_p0 ad_p0 p0_places p0_steps p0_pastFirst p0_past p0_goings p0_rowSize p0_ways p0_hasField p0_fieldSize p0_faultNow (u.1) (u.2.1) p0_weightCount p0_roundCount p0_setCount (u.2.2.1) p0_colour p0_has (u.2.2.2.1) p0_needs (u.2.2.2.2.1) p0_puts p0_sort (u.2.2.2.2.2) p0_takes)) hx hb hr hlocks (p0_hasTree, p0_treeSize, p0_aboveOf, p0_isLeaf, p0_nodes, p0_stepOf) hw hP hD hS dX10_tree_23
  · have hw := hw.2 c3
    refine lv_ldc (v := -2000000001) hx hb hown (hts (.constant RX10 159 (-2000000001)) (by decide +kernel)) dX10_tree_11 ?_
    exact x_iret (w1 := fun (u : (Int32) × (Int32) × (Nat → Int32) × (Nat → Int32) × (Nat → Int32) × (Nat → Int32)) => (wld_X10_tree cI cJ cZ h_p0 ad_p0 p0_places p0_steps p0_pastFirst p0_past p0_goings p0_rowSize p0_ways p0_hasField p0_fieldSize p0_faultNow (u.1) (u.2.1) p0_weightCount p0_roundCount p0_setCount (u.2.2.1) p0_colour p0_has (u.2.2.2.1) p0_needs (u.2.2.2.2.1) p0_puts p0_sort (u.2.2.2.2.2) p0_takes)) hx hb hr hlocks (p0_hasTree, p0_treeSize, p0_aboveOf, p0_isLeaf, p0_nodes, p0_stepOf) hw hP hD hS dX10_tree_13
abbrev wld_X10_askTree (cI cJ cZ : ClassId) (h_p0 : Nat) (ad_p0 : Nat → Nat) (p0_places : Int32) (p0_steps : Int32) (p0_pastFirst : Int32) (p0_past : Int32) (p0_goings : Int32) (p0_rowSize : Int32) (p0_ways : Int32) (p0_hasField : Int32) (p0_fieldSize : Int32) (p0_faultNow : Int32) (p0_hasTree : Int32) (p0_treeSize : Int32) (p0_weightCount : Int32) (p0_roundCount : Int32) (p0_setCount : Int32) : va_W := [(h_p0, .inr (10, [.int p0_places, .int p0_steps, .ref (ad_p0 2), .ref (ad_p0 3), .ref (ad_p0 4), .ref (ad_p0 5), .ref (ad_p0 6), .ref (ad_p0 7), .ref (ad_p0 8), .ref (ad_p0 9), .ref (ad_p0 10), .ref (ad_p0 11), .ref (ad_p0 12), .ref (ad_p0 13), .ref (ad_p0 14), .int p0_pastFirst, .int p0_past, .int p0_goings, .int p0_rowSize, .ref (ad_p0 19), .ref (ad_p0 20), .int p0_ways, .ref (ad_p0 22), .ref (ad_p0 23), .int p0_hasField, .int p0_fieldSize, .ref (ad_p0 26), .ref (ad_p0 27), .ref (ad_p0 28), .ref (ad_p0 29), .ref (ad_p0 30), .ref (ad_p0 31), .ref (ad_p0 32), .int p0_faultNow, .int p0_hasTree, .int p0_treeSize, .ref (ad_p0 36), .ref (ad_p0 37), .ref (ad_p0 38), .ref (ad_p0 39), .ref (ad_p0 40), .ref (ad_p0 41), .ref (ad_p0 42), .int p0_weightCount, .ref (ad_p0 44), .int p0_roundCount, .ref (ad_p0 46), .int p0_setCount, .ref (ad_p0 48), .ref (ad_p0 49)]))]
abbrev q_X10_askTree (dC : Nat → ClassId) (dI : Nat → Nat → Nat) (cI cJ cZ : ClassId) (h_p0 : Nat) (ad_p0 : Nat → Nat) (p0_places : Int32) (p0_steps : Int32) (p0_pastFirst : Int32) (p0_past : Int32) (p0_goings : Int32) (p0_rowSize : Int32) (p0_ways : Int32) (p0_hasField : Int32) (p0_fieldSize : Int32) (p0_faultNow : Int32) (p0_hasTree : Int32) (p0_treeSize : Int32) (p0_weightCount : Int32) (p0_roundCount : Int32) (p0_setCount : Int32) (post : Int32 → Prop) (A : Nat → Prop) : Array Value → State → Outcome → State → Prop := va_Qi (fun r (u : Unit) => post r ) (fun (u : Unit) t => xPost (dC, dI) A (wld_X10_askTree cI cJ cZ h_p0 ad_p0 p0_places p0_steps p0_pastFirst p0_past p0_goings p0_rowSize p0_ways p0_hasField p0_fieldSize p0_faultNow p0_hasTree p0_treeSize p0_weightCount p0_roundCount p0_setCount) t) A
def w_X10_askTree (p0_hasTree : Int32) (p0_treeSize : Int32) (a1 : Int32) (post : Int32 → Prop) : Prop :=
  (¬ p0_hasTree = 0 →
    w_X10_isIn a1 (0 : Int32) (p0_treeSize - (1 : Int32)) (fun r3 =>
    (r3 = 0 →
      (post (-2000000001 : Int32))) ∧
    (¬ r3 = 0 →
      (post (0 : Int32))))) ∧
  (p0_hasTree = 0 →
    (post (-2000000002 : Int32)))
set_option maxHeartbeats 4000000 in
set_option maxRecDepth 100000 in
theorem c_X10_askTree {l : Launch} {dC : Nat → ClassId} {dI : Nat → Nat → Nat} {sz : Nat} {cI cJ cZ : ClassId} {h_p0 : Nat} {ad_p0 : Nat → Nat} {p0_places : Int32} {p0_steps : Int32} {p0_pastFirst : Int32} {p0_past : Int32} {p0_goings : Int32} {p0_rowSize : Int32} {p0_ways : Int32} {p0_hasField : Int32} {p0_fieldSize : Int32} {p0_faultNow : Int32} {p0_hasTree : Int32} {p0_treeSize : Int32} {p0_weightCount : Int32} {p0_roundCount : Int32} {p0_setCount : Int32} {a1 : Int32} {post : Int32 → Prop} (hw : w_X10_askTree p0_hasTree p0_treeSize a1 post) : Met l yX10_askTree wsX10_askTree ({ frames := 1, cells := 0, slots := 0, locals := 22 }) (va_Pc [.ref h_p0, .int a1] (xPre (dC, dI) cI cJ cZ (wld_X10_askTree cI cJ cZ h_p0 ad_p0 p0_places p0_steps p0_pastFirst p0_past p0_goings p0_rowSize p0_ways p0_hasField p0_fieldSize p0_faultNow p0_hasTree p0_treeSize p0_weightCount p0_roundCount p0_setCount) sz)) (q_X10_askTree dC dI cI cJ cZ h_p0 ad_p0 p0_places p0_steps p0_pastFirst p0_past p0_goings p0_rowSize p0_ways p0_hasField p0_fieldSize p0_faultNow p0_hasTree p0_treeSize p0_weightCount p0_roundCount p0_setCount post (va_A (wld_X10_askTree cI cJ cZ h_p0 ad_p0 p0_places p0_steps p0_pastFirst p0_past p0_goings p0_rowSize p0_ways p0_hasField p0_fieldSize p0_faultNow p0_hasTree p0_treeSize p0_weightCount p0_roundCount p0_setCount) sz)) 0 0 (va_A (wld_X10_askTree cI cJ cZ h_p0 ad_p0 p0_places p0_steps p0_pastFirst p0_past p0_goings p0_rowSize p0_ways p0_hasField p0_fieldSize p0_faultNow p0_hasTree p0_treeSize p0_weightCount p0_roundCount p0_setCount) sz) := by
  refine x_met (cc := cX10_askTree) (maxL := 2) (ret := (some .int)) (own := RX10) (Qc := fun A => (q_X10_askTree dC dI cI cJ cZ h_p0 ad_p0 p0_places p0_steps p0_pastFirst p0_past p0_goings p0_rowSize p0_ways p0_hasField p0_fieldSize p0_faultNow p0_hasTree p0_treeSize p0_weightCount p0_roundCount p0_setCount post A)) (by decide) rfl rfl (Nat.le_of_ble_eq_true rfl) ?_
  intro p e s m args below meth c A ls E0 hP hD hS hl
  obtain ⟨hx, hb, hr, hml, hown, hts, hlocks, hK, hA, n1, n2⟩ := id E0
  have iX10 : ∀ w ∈ u_ws RX10 TX10 50, w ∈ wsX10_askTree := fun w h => List.mem_cons_of_mem _ (List.mem_append_right _ h)
  have hS0 := hS
  have hl : lv_has ls 2 [(0, .ref h_p0), (1, .int a1)] := hl
  unfold w_X10_askTree at hw
  obtain ⟨H, hH⟩ : ∃ H, H = s.heap := ⟨_, rfl⟩
  have hS : va_S A s.heap H [] := by rw [hH]; exact hS
  have hP : va_P (dC, dI) vwCl (wld_X10_askTree cI cJ cZ h_p0 ad_p0 p0_places p0_steps p0_pastFirst p0_past p0_goings p0_rowSize p0_ways p0_hasField p0_fieldSize p0_faultNow p0_hasTree p0_treeSize p0_weightCount p0_roundCount p0_setCount) H := by rw [hH]; exact hP
  suffices hG : W p l e ({ frames := 1, cells := 0, slots := 0, locals := 22 }) s m args below meth c H [] 0 0 (MQ below (q_X10_askTree dC dI cI cJ cZ h_p0 ad_p0 p0_places p0_steps p0_pastFirst p0_past p0_goings p0_rowSize p0_ways p0_hasField p0_fieldSize p0_faultNow p0_hasTree p0_treeSize p0_weightCount p0_roundCount p0_setCount post A) args s 0 0 A) (F0 m 0 ls []) by rw [hH] at hG; exact hG
  clear hH
  refine lv_aload_n hx hb dX10_askTree_0 rfl (lv_at hl 0 rfl) ?_
  refine va_get (D := (dC, dI)) (ci := 10) (v := .int p0_hasTree) (C := RX10) (T := TX10) (N := 50) hx hb hts iX10 hown hK hP 0 rfl rfl 34 (by decide) (hts (.fieldLink RX10 137 "NetHouseModel" "hasTree" "Z") (by decide +kernel)) (fun _ h9 => h9) rfl dX10_askTree_1 ?_
  refine lv_if_ne (tgt := 12) hx hb dX10_askTree_4 (by decide) (fun c1 => ?_) (fun c2 => ?_)
  · have hw := hw.1 c1
    refine lv_iload_n hx hb dX10_askTree_12 rfl (lv_at hl 1 rfl) ?_
    refine lv_iconst (v := 0) hx hb dX10_askTree_13 (by decide) ?_
    refine lv_aload_n hx hb dX10_askTree_14 rfl (lv_at hl 0 rfl) ?_
    refine va_get (D := (dC, dI)) (ci := 10) (v := .int p0_treeSize) (C := RX10) (T := TX10) (N := 50) hx hb hts iX10 hown hK hP 0 rfl rfl 35 (by decide) (hts (.fieldLink RX10 140 "NetHouseModel" "treeSize" "I") (by decide +kernel)) (fun _ h9 => h9) rfl dX10_askTree_15 ?_
    refine lv_iconst (v := 1) hx hb dX10_askTree_18 (by decide) ?_
    refine lv_isub hx hb dX10_askTree_19 ?_
    obtain ⟨hPc, hDc⟩ := x_sub (wc := (wld_X10_isIn cI cJ cZ )) hP hD [] (n := 1) rfl rfl (by decide +kernel)
    refine x_calli (ws' := fun (u : Unit) => (wld_X10_askTree cI cJ cZ h_p0 ad_p0 p0_places p0_steps p0_pastFirst p0_past p0_goings p0_rowSize p0_ways p0_hasField p0_fieldSize p0_faultNow p0_hasTree p0_treeSize p0_weightCount p0_roundCount p0_setCount)) hP hD hS hA [] [0] [0] (n := 1) (k := 0) rfl (fun _ => rfl) rfl (by decide +kernel) (fun _ => rfl) (va_runS (As := [.int a1, .int (0 : Int32), .int (p0_treeSize - (1 : Int32))]) (rest := []) ⟨hx, hb, hml, hown, hts⟩ (c_X10_isIn (l := l) (dC := dC) (dI := dI) (cI := cI) (cJ := cJ) (cZ := cZ) (sz := H.size) hw) (va_cwS 3 hts gX10_askTree_X10_isIn rfl rfl rfl (by decide +kernel) ⟨Nat.le_of_ble_eq_true rfl, Nat.le_of_ble_eq_true rfl⟩) ⟨xPre_blind, xPre_at hK hPc hDc n1 n2⟩ rfl rfl hl.1 rfl (lv_room (Nat.le_of_ble_eq_true rfl)) dX10_askTree_20 ⟨Nat.zero_le _, Nat.zero_le _⟩) (fun r3 u H locs hw hP hD hS => ?_)
    try dsimp only at hw
    have hP : va_P (dC, dI) vwCl (wld_X10_askTree cI cJ cZ h_p0 ad_p0 p0_places p0_steps p0_pastFirst p0_past p0_goings p0_rowSize p0_ways p0_hasField p0_fieldSize p0_faultNow p0_hasTree p0_treeSize p0_weightCount p0_roundCount p0_setCount) H := hP
    have hD : va_D A (wld_X10_askTree cI cJ cZ h_p0 ad_p0 p0_places p0_steps p0_pastFirst p0_past p0_goings p0_rowSize p0_ways p0_hasField p0_fieldSize p0_faultNow p0_hasTree p0_treeSize p0_weightCount p0_roundCount p0_setCount) := hD
    refine lv_if_eq (tgt := 30) hx hb dX10_askTree_23 (by decide) (fun c4 => ?_) (fun c5 => ?_)
    · have hw := hw.1 c4
      refine lv_ldc (v := -2000000001) hx hb hown (hts (.constant RX10 159 (-2000000001)) (by decide +kernel)) dX10_askTree_30 ?_
      exact x_iret (w1 := fun (u : Unit) => (wld_X10_askTree cI cJ cZ h_p0 ad_p0 p0_places p0_steps p0_pastFirst p0_past p0_goings p0_rowSize p0_ways p0_hasField p0_fieldSize p0_faultNow p0_hasTree p0_treeSize p0_weightCount p0_roundCount p0_setCount)) hx hb hr hlocks () hw hP hD hS dX10_askTree_32
    · have hw := hw.2 c5
      refine lv_iconst (v := 0) hx hb dX10_askTree_26 (by decide) ?_
      refine lv_goto (tgt := 32) hx hb dX10_askTree_27 (by decide) ?_
      exact x_iret (w1 := fun (u : Unit) => (wld_X10_askTree cI cJ cZ h_p0 ad_p0 p0_places p0_steps p0_pastFirst p0_past p0_goings p0_rowSize p0_ways p0_hasField p0_fieldSize p0_faultNow p0_hasTree p0_treeSize p0_weightCount p0_roundCount p0_setCount)) hx hb hr hlocks () hw hP hD hS dX10_askTree_32
  · have hw := hw.2 c2
    refine lv_ldc (v := -2000000002) hx hb hown (hts (.constant RX10 171 (-2000000002)) (by decide +kernel)) dX10_askTree_7 ?_
    refine lv_goto (tgt := 32) hx hb dX10_askTree_9 (by decide) ?_
    exact x_iret (w1 := fun (u : Unit) => (wld_X10_askTree cI cJ cZ h_p0 ad_p0 p0_places p0_steps p0_pastFirst p0_past p0_goings p0_rowSize p0_ways p0_hasField p0_fieldSize p0_faultNow p0_hasTree p0_treeSize p0_weightCount p0_roundCount p0_setCount)) hx hb hr hlocks () hw hP hD hS dX10_askTree_32
abbrev wld_X10_shown (cI cJ cZ : ClassId) : va_W := []
abbrev q_X10_shown (dC : Nat → ClassId) (dI : Nat → Nat → Nat) (cI cJ cZ : ClassId) (post : Int32 → Prop) (A : Nat → Prop) : Array Value → State → Outcome → State → Prop := va_Qi (fun r (u : Unit) => post r ) (fun (u : Unit) t => xPost (dC, dI) A (wld_X10_shown cI cJ cZ) t) A
def w_X10_shown (a0 : Int32) (post : Int32 → Prop) : Prop :=
  (0 ≤ a0 →
    (post a0)) ∧
  (¬ 0 ≤ a0 →
    (post (-2000000006 : Int32)))
set_option maxHeartbeats 4000000 in
set_option maxRecDepth 100000 in
theorem c_X10_shown {l : Launch} {dC : Nat → ClassId} {dI : Nat → Nat → Nat} {sz : Nat} {cI cJ cZ : ClassId} {a0 : Int32} {post : Int32 → Prop} (hw : w_X10_shown a0 post) : Met l yX10_shown wsX10_shown ({ frames := 0, cells := 0, slots := 0, locals := 0 }) (va_Pc [.int a0] (xPre (dC, dI) cI cJ cZ (wld_X10_shown cI cJ cZ) sz)) (q_X10_shown dC dI cI cJ cZ post (va_A (wld_X10_shown cI cJ cZ) sz)) 0 0 (va_A (wld_X10_shown cI cJ cZ) sz) := by
  refine x_met (cc := cX10_shown) (maxL := 1) (ret := (some .int)) (own := RX10) (Qc := fun A => (q_X10_shown dC dI cI cJ cZ post A)) (by decide) rfl rfl (Nat.le_of_ble_eq_true rfl) ?_
  intro p e s m args below meth c A ls E0 hP hD hS hl
  obtain ⟨hx, hb, hr, hml, hown, hts, hlocks, hK, hA, n1, n2⟩ := id E0
  have hS0 := hS
  have hl : lv_has ls 1 [(0, .int a0)] := hl
  unfold w_X10_shown at hw
  obtain ⟨H, hH⟩ : ∃ H, H = s.heap := ⟨_, rfl⟩
  have hS : va_S A s.heap H [] := by rw [hH]; exact hS
  have hP : va_P (dC, dI) vwCl (wld_X10_shown cI cJ cZ) H := by rw [hH]; exact hP
  suffices hG : W p l e ({ frames := 0, cells := 0, slots := 0, locals := 0 }) s m args below meth c H [] 0 0 (MQ below (q_X10_shown dC dI cI cJ cZ post A) args s 0 0 A) (F0 m 0 ls []) by rw [hH] at hG; exact hG
  clear hH
  refine lv_iload_n hx hb dX10_shown_0 rfl (lv_at hl 0 rfl) ?_
  refine lv_if_ge (tgt := 10) hx hb dX10_shown_1 (by decide) (fun c1 => ?_) (fun c2 => ?_)
  · have hw := hw.1 c1
    refine lv_iload_n hx hb dX10_shown_10 rfl (lv_at hl 0 rfl) ?_
    exact x_iret (w1 := fun (u : Unit) => (wld_X10_shown cI cJ cZ)) hx hb hr hlocks () hw hP hD hS dX10_shown_11
  · have hw := hw.2 c2
    refine lv_ldcw (v := -2000000006) hx hb hown (hts (.constant RX10 304 (-2000000006)) (by decide +kernel)) dX10_shown_4 ?_
    refine lv_goto (tgt := 11) hx hb dX10_shown_7 (by decide) ?_
    exact x_iret (w1 := fun (u : Unit) => (wld_X10_shown cI cJ cZ)) hx hb hr hlocks () hw hP hD hS dX10_shown_11
abbrev wld_X10_node (cI cJ cZ : ClassId) (h_p0 : Nat) (ad_p0 : Nat → Nat) (p0_places : Int32) (p0_steps : Int32) (p0_pastFirst : Int32) (p0_past : Int32) (p0_goings : Int32) (p0_rowSize : Int32) (p0_ways : Int32) (p0_hasField : Int32) (p0_fieldSize : Int32) (p0_faultNow : Int32) (p0_hasTree : Int32) (p0_treeSize : Int32) (p0_weightCount : Int32) (p0_roundCount : Int32) (p0_setCount : Int32) (p0_nodes : Nat → Int32) : va_W := [(h_p0, .inr (10, [.int p0_places, .int p0_steps, .ref (ad_p0 2), .ref (ad_p0 3), .ref (ad_p0 4), .ref (ad_p0 5), .ref (ad_p0 6), .ref (ad_p0 7), .ref (ad_p0 8), .ref (ad_p0 9), .ref (ad_p0 10), .ref (ad_p0 11), .ref (ad_p0 12), .ref (ad_p0 13), .ref (ad_p0 14), .int p0_pastFirst, .int p0_past, .int p0_goings, .int p0_rowSize, .ref (ad_p0 19), .ref (ad_p0 20), .int p0_ways, .ref (ad_p0 22), .ref (ad_p0 23), .int p0_hasField, .int p0_fieldSize, .ref (ad_p0 26), .ref (ad_p0 27), .ref (ad_p0 28), .ref (ad_p0 29), .ref (ad_p0 30), .ref (ad_p0 31), .ref (ad_p0 32), .int p0_faultNow, .int p0_hasTree, .int p0_treeSize, .ref (ad_p0 36), .ref (ad_p0 37), .ref (ad_p0 38), .ref (ad_p0 39), .ref (ad_p0 40), .ref (ad_p0 41), .ref (ad_p0 42), .int p0_weightCount, .ref (ad_p0 44), .int p0_roundCount, .ref (ad_p0 46), .int p0_setCount, .ref (ad_p0 48), .ref (ad_p0 49)])), ((ad_p0 36), .inl (cI, 32000, .inl p0_nodes))]
abbrev q_X10_node (dC : Nat → ClassId) (dI : Nat → Nat → Nat) (cI cJ cZ : ClassId) (h_p0 : Nat) (ad_p0 : Nat → Nat) (p0_places : Int32) (p0_steps : Int32) (p0_pastFirst : Int32) (p0_past : Int32) (p0_goings : Int32) (p0_rowSize : Int32) (p0_ways : Int32) (p0_hasField : Int32) (p0_fieldSize : Int32) (p0_faultNow : Int32) (p0_hasTree : Int32) (p0_treeSize : Int32) (p0_weightCount : Int32) (p0_roundCount : Int32) (p0_setCount : Int32) (p0_nodes : Nat → Int32) (post : Int32 → Prop) (A : Nat → Prop) : Array Value → State → Outcome → State → Prop := va_Qi (fun r (u : Unit) => post r ) (fun (u : Unit) t => xPost (dC, dI) A (wld_X10_node cI cJ cZ h_p0 ad_p0 p0_places p0_steps p0_pastFirst p0_past p0_goings p0_rowSize p0_ways p0_hasField p0_fieldSize p0_faultNow p0_hasTree p0_treeSize p0_weightCount p0_roundCount p0_setCount p0_nodes) t) A
def w_X10_node (p0_hasTree : Int32) (p0_places : Int32) (p0_treeSize : Int32) (p0_nodes : Nat → Int32) (a1 : Int32) (a2 : Int32) (post : Int32 → Prop) : Prop :=
  w_X10_isPlace p0_places a2 (fun r1 =>
  (¬ r1 = 0 →
    w_X10_askTree p0_hasTree p0_treeSize a1 (fun r4 =>
    (0 ≤ r4 →
      vp_in (((16 : Int32) * a1) + a2) 32000 ∧
      w_X10_shown (p0_nodes (((16 : Int32) * a1) + a2).toNatClampNeg) (fun r7 =>
      (post r7))) ∧
    (¬ 0 ≤ r4 →
      (post r4)))) ∧
  (r1 = 0 →
    (post (-2000000001 : Int32))))
set_option maxHeartbeats 4000000 in
set_option maxRecDepth 100000 in
theorem c_X10_node {l : Launch} {dC : Nat → ClassId} {dI : Nat → Nat → Nat} {sz : Nat} {cI cJ cZ : ClassId} {h_p0 : Nat} {ad_p0 : Nat → Nat} {p0_places : Int32} {p0_steps : Int32} {p0_pastFirst : Int32} {p0_past : Int32} {p0_goings : Int32} {p0_rowSize : Int32} {p0_ways : Int32} {p0_hasField : Int32} {p0_fieldSize : Int32} {p0_faultNow : Int32} {p0_hasTree : Int32} {p0_treeSize : Int32} {p0_weightCount : Int32} {p0_roundCount : Int32} {p0_setCount : Int32} {p0_nodes : Nat → Int32} {a1 : Int32} {a2 : Int32} {post : Int32 → Prop} (hw : w_X10_node p0_hasTree p0_places p0_treeSize p0_nodes a1 a2 post) : Met l yX10_node wsX10_node ({ frames := 2, cells := 0, slots := 0, locals := 43 }) (va_Pc [.ref h_p0, .int a1, .int a2] (xPre (dC, dI) cI cJ cZ (wld_X10_node cI cJ cZ h_p0 ad_p0 p0_places p0_steps p0_pastFirst p0_past p0_goings p0_rowSize p0_ways p0_hasField p0_fieldSize p0_faultNow p0_hasTree p0_treeSize p0_weightCount p0_roundCount p0_setCount p0_nodes) sz)) (q_X10_node dC dI cI cJ cZ h_p0 ad_p0 p0_places p0_steps p0_pastFirst p0_past p0_goings p0_rowSize p0_ways p0_hasField p0_fieldSize p0_faultNow p0_hasTree p0_treeSize p0_weightCount p0_roundCount p0_setCount p0_nodes post (va_A (wld_X10_node cI cJ cZ h_p0 ad_p0 p0_places p0_steps p0_pastFirst p0_past p0_goings p0_rowSize p0_ways p0_hasField p0_fieldSize p0_faultNow p0_hasTree p0_treeSize p0_weightCount p0_roundCount p0_setCount p0_nodes) sz)) 0 0 (va_A (wld_X10_node cI cJ cZ h_p0 ad_p0 p0_places p0_steps p0_pastFirst p0_past p0_goings p0_rowSize p0_ways p0_hasField p0_fieldSize p0_faultNow p0_hasTree p0_treeSize p0_weightCount p0_roundCount p0_setCount p0_nodes) sz) := by
  refine x_met (cc := cX10_node) (maxL := 4) (ret := (some .int)) (own := RX10) (Qc := fun A => (q_X10_node dC dI cI cJ cZ h_p0 ad_p0 p0_places p0_steps p0_pastFirst p0_past p0_goings p0_rowSize p0_ways p0_hasField p0_fieldSize p0_faultNow p0_hasTree p0_treeSize p0_weightCount p0_roundCount p0_setCount p0_nodes post A)) (by decide) rfl rfl (Nat.le_of_ble_eq_true rfl) ?_
  intro p e s m args below meth c A ls E0 hP hD hS hl
  obtain ⟨hx, hb, hr, hml, hown, hts, hlocks, hK, hA, n1, n2⟩ := id E0
  have iX10 : ∀ w ∈ u_ws RX10 TX10 50, w ∈ wsX10_node := fun w h => List.mem_cons_of_mem _ (List.mem_append_right _ h)
  have hS0 := hS
  have hl : lv_has ls 4 [(0, .ref h_p0), (1, .int a1), (2, .int a2)] := hl
  unfold w_X10_node at hw
  obtain ⟨H, hH⟩ : ∃ H, H = s.heap := ⟨_, rfl⟩
  have hS : va_S A s.heap H [] := by rw [hH]; exact hS
  have hP : va_P (dC, dI) vwCl (wld_X10_node cI cJ cZ h_p0 ad_p0 p0_places p0_steps p0_pastFirst p0_past p0_goings p0_rowSize p0_ways p0_hasField p0_fieldSize p0_faultNow p0_hasTree p0_treeSize p0_weightCount p0_roundCount p0_setCount p0_nodes) H := by rw [hH]; exact hP
  suffices hG : W p l e ({ frames := 2, cells := 0, slots := 0, locals := 43 }) s m args below meth c H [] 0 0 (MQ below (q_X10_node dC dI cI cJ cZ h_p0 ad_p0 p0_places p0_steps p0_pastFirst p0_past p0_goings p0_rowSize p0_ways p0_hasField p0_fieldSize p0_faultNow p0_hasTree p0_treeSize p0_weightCount p0_roundCount p0_setCount p0_nodes post A) args s 0 0 A) (F0 m 0 ls []) by rw [hH] at hG; exact hG
  clear hH
  refine lv_aload_n hx hb dX10_node_0 rfl (lv_at hl 0 rfl) ?_
  refine lv_iload_n hx hb dX10_node_1 rfl (lv_at hl 2 rfl) ?_
  obtain ⟨hPc, hDc⟩ := x_sub (wc := (wld_X10_isPlace cI cJ cZ h_p0 ad_p0 p0_places p0_steps p0_pastFirst p0_past p0_goings p0_rowSize p0_ways p0_hasField p0_fieldSize p0_faultNow p0_hasTree p0_treeSize p0_weightCount p0_roundCount p0_setCount)) hP hD [0] (n := 2) rfl rfl (by decide +kernel)
  refine x_calli (ws' := fun (u : Unit) => (wld_X10_node cI cJ cZ h_p0 ad_p0 p0_places p0_steps p0_pastFirst p0_past p0_goings p0_rowSize p0_ways p0_hasField p0_fieldSize p0_faultNow p0_hasTree p0_treeSize p0_weightCount p0_roundCount p0_setCount p0_nodes)) hP hD hS hA [0] [1] [1, 0] (n := 2) (k := 1) rfl (fun _ => rfl) rfl (by decide +kernel) (fun _ => rfl) (va_runV (As := [.int a2]) (rest := []) ⟨hx, hb, hml, hown, hts⟩ (c_X10_isPlace (l := l) (dC := dC) (dI := dI) (cI := cI) (cJ := cJ) (cZ := cZ) (sz := H.size) (h_p0 := h_p0) (ad_p0 := ad_p0) (p0_places := p0_places) (p0_steps := p0_steps) (p0_pastFirst := p0_pastFirst) (p0_past := p0_past) (p0_goings := p0_goings) (p0_rowSize := p0_rowSize) (p0_ways := p0_ways) (p0_hasField := p0_hasField) (p0_fieldSize := p0_fieldSize) (p0_faultNow := p0_faultNow) (p0_hasTree := p0_hasTree) (p0_treeSize := p0_treeSize) (p0_weightCount := p0_weightCount) (p0_roundCount := p0_roundCount) (p0_setCount := p0_setCount) hw) (cwV 1 hts gX10_node_X10_isPlace rfl rfl rfl (by decide +kernel) ⟨Nat.le_of_ble_eq_true rfl, Nat.le_of_ble_eq_true rfl⟩) ⟨xPre_blind, va_recv hK hP (ci := 10) (q0 := 0) rfl rfl, xPre_at hK hPc hDc n1 n2⟩ rfl rfl hl.1 rfl (lv_room (Nat.le_of_ble_eq_true rfl)) dX10_node_2 ⟨Nat.zero_le _, Nat.zero_le _⟩) (fun r1 u H locs hw hP hD hS => ?_)
  try dsimp only at hw
  have hP : va_P (dC, dI) vwCl (wld_X10_node cI cJ cZ h_p0 ad_p0 p0_places p0_steps p0_pastFirst p0_past p0_goings p0_rowSize p0_ways p0_hasField p0_fieldSize p0_faultNow p0_hasTree p0_treeSize p0_weightCount p0_roundCount p0_setCount p0_nodes) H := hP
  have hD : va_D A (wld_X10_node cI cJ cZ h_p0 ad_p0 p0_places p0_steps p0_pastFirst p0_past p0_goings p0_rowSize p0_ways p0_hasField p0_fieldSize p0_faultNow p0_hasTree p0_treeSize p0_weightCount p0_roundCount p0_setCount p0_nodes) := hD
  refine lv_if_ne (tgt := 11) hx hb dX10_node_5 (by decide) (fun c2 => ?_) (fun c3 => ?_)
  · have hw := hw.1 c2
    refine lv_aload_n hx hb dX10_node_11 rfl (lv_at hl 0 rfl) ?_
    refine lv_iload_n hx hb dX10_node_12 rfl (lv_at hl 1 rfl) ?_
    obtain ⟨hPc, hDc⟩ := x_sub (wc := (wld_X10_askTree cI cJ cZ h_p0 ad_p0 p0_places p0_steps p0_pastFirst p0_past p0_goings p0_rowSize p0_ways p0_hasField p0_fieldSize p0_faultNow p0_hasTree p0_treeSize p0_weightCount p0_roundCount p0_setCount)) hP hD [0] (n := 2) rfl rfl (by decide +kernel)
    refine x_calli (ws' := fun (u : Unit) => (wld_X10_node cI cJ cZ h_p0 ad_p0 p0_places p0_steps p0_pastFirst p0_past p0_goings p0_rowSize p0_ways p0_hasField p0_fieldSize p0_faultNow p0_hasTree p0_treeSize p0_weightCount p0_roundCount p0_setCount p0_nodes)) hP hD hS hA [0] [1] [1, 0] (n := 2) (k := 1) rfl (fun _ => rfl) rfl (by decide +kernel) (fun _ => rfl) (va_runV (As := [.int a1]) (rest := []) ⟨hx, hb, hml, hown, hts⟩ (c_X10_askTree (l := l) (dC := dC) (dI := dI) (cI := cI) (cJ := cJ) (cZ := cZ) (sz := H.size) (h_p0 := h_p0) (ad_p0 := ad_p0) (p0_places := p0_places) (p0_steps := p0_steps) (p0_pastFirst := p0_pastFirst) (p0_past := p0_past) (p0_goings := p0_goings) (p0_rowSize := p0_rowSize) (p0_ways := p0_ways) (p0_hasField := p0_hasField) (p0_fieldSize := p0_fieldSize) (p0_faultNow := p0_faultNow) (p0_hasTree := p0_hasTree) (p0_treeSize := p0_treeSize) (p0_weightCount := p0_weightCount) (p0_roundCount := p0_roundCount) (p0_setCount := p0_setCount) hw) (cwV 1 hts gX10_node_X10_askTree rfl rfl rfl (by decide +kernel) ⟨Nat.le_of_ble_eq_true rfl, Nat.le_of_ble_eq_true rfl⟩) ⟨xPre_blind, va_recv hK hP (ci := 10) (q0 := 0) rfl rfl, xPre_at hK hPc hDc n1 n2⟩ rfl rfl hl.1 rfl (lv_room (Nat.le_of_ble_eq_true rfl)) dX10_node_13 ⟨Nat.zero_le _, Nat.zero_le _⟩) (fun r4 u H locs hw hP hD hS => ?_)
    try dsimp only at hw
    have hP : va_P (dC, dI) vwCl (wld_X10_node cI cJ cZ h_p0 ad_p0 p0_places p0_steps p0_pastFirst p0_past p0_goings p0_rowSize p0_ways p0_hasField p0_fieldSize p0_faultNow p0_hasTree p0_treeSize p0_weightCount p0_roundCount p0_setCount p0_nodes) H := hP
    have hD : va_D A (wld_X10_node cI cJ cZ h_p0 ad_p0 p0_places p0_steps p0_pastFirst p0_past p0_goings p0_rowSize p0_ways p0_hasField p0_fieldSize p0_faultNow p0_hasTree p0_treeSize p0_weightCount p0_roundCount p0_setCount p0_nodes) := hD
    refine lv_istore_n (lv' := [(3, .int r4), (0, .ref h_p0), (1, .int a1), (2, .int a2)]) hx hb dX10_node_16 rfl hl (by decide) rfl (fun ls hl => ?_)
    refine lv_iload_n hx hb dX10_node_17 rfl (lv_at hl 0 rfl) ?_
    refine lv_if_ge (tgt := 25) hx hb dX10_node_18 (by decide) (fun c5 => ?_) (fun c6 => ?_)
    · have hw := hw.1 c5
      refine lv_aload_n hx hb dX10_node_25 rfl (lv_at hl 1 rfl) ?_
      refine va_get (D := (dC, dI)) (ci := 10) (v := .ref (ad_p0 36)) (C := RX10) (T := TX10) (N := 50) hx hb hts iX10 hown hK hP 0 rfl rfl 36 (by decide) (hts (.fieldLink RX10 90 "NetHouseModel" "nodes" "[I") (by decide +kernel)) (fun _ h9 => h9) rfl dX10_node_26 ?_
      refine lv_bipush (v := 16) hx hb dX10_node_29 (by decide) ?_
      refine lv_iload_n hx hb dX10_node_31 rfl (lv_at hl 2 rfl) ?_
      refine lv_imul hx hb dX10_node_32 ?_
      refine lv_iload_n hx hb dX10_node_33 rfl (lv_at hl 3 rfl) ?_
      refine lv_iadd hx hb dX10_node_34 ?_
      refine va_iald hx hb hK hP 1 0 rfl rfl hw.1 dX10_node_35 ?_
      have hw := hw.2
      obtain ⟨hPc, hDc⟩ := x_sub (wc := (wld_X10_shown cI cJ cZ )) hP hD [] (n := 2) rfl rfl (by decide +kernel)
      refine x_calli (ws' := fun (u : Unit) => (wld_X10_node cI cJ cZ h_p0 ad_p0 p0_places p0_steps p0_pastFirst p0_past p0_goings p0_rowSize p0_ways p0_hasField p0_fieldSize p0_faultNow p0_hasTree p0_treeSize p0_weightCount p0_roundCount p0_setCount p0_nodes)) hP hD hS hA [] [0, 1] [0, 1] (n := 2) (k := 0) rfl (fun _ => rfl) rfl (by decide +kernel) (fun _ => rfl) (va_runS (As := [.int (p0_nodes (((16 : Int32) * a1) + a2).toNatClampNeg)]) (rest := []) ⟨hx, hb, hml, hown, hts⟩ (c_X10_shown (l := l) (dC := dC) (dI := dI) (cI := cI) (cJ := cJ) (cZ := cZ) (sz := H.size) hw) (va_cwS 1 hts gX10_node_X10_shown rfl rfl rfl (by decide +kernel) ⟨Nat.le_of_ble_eq_true rfl, Nat.le_of_ble_eq_true rfl⟩) ⟨xPre_blind, xPre_at hK hPc hDc n1 n2⟩ rfl rfl hl.1 rfl (lv_room (Nat.le_of_ble_eq_true rfl)) dX10_node_36 ⟨Nat.zero_le _, Nat.zero_le _⟩) (fun r7 u H locs hw hP hD hS => ?_)
      try dsimp only at hw
      have hP : va_P (dC, dI) vwCl (wld_X10_node cI cJ cZ h_p0 ad_p0 p0_places p0_steps p0_pastFirst p0_past p0_goings p0_rowSize p0_ways p0_hasField p0_fieldSize p0_faultNow p0_hasTree p0_treeSize p0_weightCount p0_roundCount p0_setCount p0_nodes) H := hP
      have hD : va_D A (wld_X10_node cI cJ cZ h_p0 ad_p0 p0_places p0_steps p0_pastFirst p0_past p0_goings p0_rowSize p0_ways p0_hasField p0_fieldSize p0_faultNow p0_hasTree p0_treeSize p0_weightCount p0_roundCount p0_setCount p0_nodes) := hD
      exact x_iret (w1 := fun (u : Unit) => (wld_X10_node cI cJ cZ h_p0 ad_p0 p0_places p0_steps p0_pastFirst p0_past p0_goings p0_rowSize p0_ways p0_hasField p0_fieldSize p0_faultNow p0_hasTree p0_treeSize p0_weightCount p0_roundCount p0_setCount p0_nodes)) hx hb hr hlocks () hw hP hD hS dX10_node_39
    · have hw := hw.2 c6
      refine lv_iload_n hx hb dX10_node_21 rfl (lv_at hl 0 rfl) ?_
      refine lv_goto (tgt := 39) hx hb dX10_node_22 (by decide) ?_
      exact x_iret (w1 := fun (u : Unit) => (wld_X10_node cI cJ cZ h_p0 ad_p0 p0_places p0_steps p0_pastFirst p0_past p0_goings p0_rowSize p0_ways p0_hasField p0_fieldSize p0_faultNow p0_hasTree p0_treeSize p0_weightCount p0_roundCount p0_setCount p0_nodes)) hx hb hr hlocks () hw hP hD hS dX10_node_39
  · have hw := hw.2 c3
    refine lv_ldc (v := -2000000001) hx hb hown (hts (.constant RX10 159 (-2000000001)) (by decide +kernel)) dX10_node_8 ?_
    exact x_iret (w1 := fun (u : Unit) => (wld_X10_node cI cJ cZ h_p0 ad_p0 p0_places p0_steps p0_pastFirst p0_past p0_goings p0_rowSize p0_ways p0_hasField p0_fieldSize p0_faultNow p0_hasTree p0_treeSize p0_weightCount p0_roundCount p0_setCount p0_nodes)) hx hb hr hlocks () hw hP hD hS dX10_node_10
abbrev wld_X10_above (cI cJ cZ : ClassId) (h_p0 : Nat) (ad_p0 : Nat → Nat) (p0_places : Int32) (p0_steps : Int32) (p0_pastFirst : Int32) (p0_past : Int32) (p0_goings : Int32) (p0_rowSize : Int32) (p0_ways : Int32) (p0_hasField : Int32) (p0_fieldSize : Int32) (p0_faultNow : Int32) (p0_hasTree : Int32) (p0_treeSize : Int32) (p0_weightCount : Int32) (p0_roundCount : Int32) (p0_setCount : Int32) (p0_aboveOf : Nat → Int32) (p0_isLeaf : Nat → Int32) (p0_stepOf : Nat → Int32) : va_W := [(h_p0, .inr (10, [.int p0_places, .int p0_steps, .ref (ad_p0 2), .ref (ad_p0 3), .ref (ad_p0 4), .ref (ad_p0 5), .ref (ad_p0 6), .ref (ad_p0 7), .ref (ad_p0 8), .ref (ad_p0 9), .ref (ad_p0 10), .ref (ad_p0 11), .ref (ad_p0 12), .ref (ad_p0 13), .ref (ad_p0 14), .int p0_pastFirst, .int p0_past, .int p0_goings, .int p0_rowSize, .ref (ad_p0 19), .ref (ad_p0 20), .int p0_ways, .ref (ad_p0 22), .ref (ad_p0 23), .int p0_hasField, .int p0_fieldSize, .ref (ad_p0 26), .ref (ad_p0 27), .ref (ad_p0 28), .ref (ad_p0 29), .ref (ad_p0 30), .ref (ad_p0 31), .ref (ad_p0 32), .int p0_faultNow, .int p0_hasTree, .int p0_treeSize, .ref (ad_p0 36), .ref (ad_p0 37), .ref (ad_p0 38), .ref (ad_p0 39), .ref (ad_p0 40), .ref (ad_p0 41), .ref (ad_p0 42), .int p0_weightCount, .ref (ad_p0 44), .int p0_roundCount, .ref (ad_p0 46), .int p0_setCount, .ref (ad_p0 48), .ref (ad_p0 49)])), ((ad_p0 37), .inl (cI, 2000, .inl p0_aboveOf)), ((ad_p0 39), .inl (cZ, 2000, .inl p0_isLeaf)), ((ad_p0 38), .inl (cI, 2000, .inl p0_stepOf))]
abbrev q_X10_above (dC : Nat → ClassId) (dI : Nat → Nat → Nat) (cI cJ cZ : ClassId) (h_p0 : Nat) (ad_p0 : Nat → Nat) (p0_places : Int32) (p0_steps : Int32) (p0_pastFirst : Int32) (p0_past : Int32) (p0_goings : Int32) (p0_rowSize : Int32) (p0_ways : Int32) (p0_hasField : Int32) (p0_fieldSize : Int32) (p0_faultNow : Int32) (p0_hasTree : Int32) (p0_treeSize : Int32) (p0_weightCount : Int32) (p0_roundCount : Int32) (p0_setCount : Int32) (p0_aboveOf : Nat → Int32) (p0_isLeaf : Nat → Int32) (p0_stepOf : Nat → Int32) (post : Int32 → Prop) (A : Nat → Prop) : Array Value → State → Outcome → State → Prop := va_Qi (fun r (u : Unit) => post r ) (fun (u : Unit) t => xPost (dC, dI) A (wld_X10_above cI cJ cZ h_p0 ad_p0 p0_places p0_steps p0_pastFirst p0_past p0_goings p0_rowSize p0_ways p0_hasField p0_fieldSize p0_faultNow p0_hasTree p0_treeSize p0_weightCount p0_roundCount p0_setCount p0_aboveOf p0_isLeaf p0_stepOf) t) A
def w_X10_above (p0_hasTree : Int32) (p0_treeSize : Int32) (p0_aboveOf : Nat → Int32) (p0_isLeaf : Nat → Int32) (p0_stepOf : Nat → Int32) (a1 : Int32) (a2 : Int32) (post : Int32 → Prop) : Prop :=
  w_X10_isIn a2 (0 : Int32) (2 : Int32) (fun r1 =>
  (¬ r1 = 0 →
    w_X10_askTree p0_hasTree p0_treeSize a1 (fun r4 =>
    (0 ≤ r4 →
      (¬ a2 = 0 →
        (¬ a2 = (1 : Int32) →
          vp_in a1 2000 ∧
          ((p0_isLeaf a1.toNatClampNeg) = 0 →
            (post (0 : Int32))) ∧
          (¬ (p0_isLeaf a1.toNatClampNeg) = 0 →
            (post (1 : Int32)))) ∧
        (a2 = (1 : Int32) →
          vp_in a1 2000 ∧
          (post (p0_stepOf a1.toNatClampNeg)))) ∧
      (a2 = 0 →
        vp_in a1 2000 ∧
        (post (p0_aboveOf a1.toNatClampNeg)))) ∧
    (¬ 0 ≤ r4 →
      (post r4)))) ∧
  (r1 = 0 →
    (post (-2000000001 : Int32))))
set_option maxHeartbeats 4000000 in
set_option maxRecDepth 100000 in
theorem c_X10_above {l : Launch} {dC : Nat → ClassId} {dI : Nat → Nat → Nat} {sz : Nat} {cI cJ cZ : ClassId} {h_p0 : Nat} {ad_p0 : Nat → Nat} {p0_places : Int32} {p0_steps : Int32} {p0_pastFirst : Int32} {p0_past : Int32} {p0_goings : Int32} {p0_rowSize : Int32} {p0_ways : Int32} {p0_hasField : Int32} {p0_fieldSize : Int32} {p0_faultNow : Int32} {p0_hasTree : Int32} {p0_treeSize : Int32} {p0_weightCount : Int32} {p0_roundCount : Int32} {p0_setCount : Int32} {p0_aboveOf : Nat → Int32} {p0_isLeaf : Nat → Int32} {p0_stepOf : Nat → Int32} {a1 : Int32} {a2 : Int32} {post : Int32 → Prop} (hw : w_X10_above p0_hasTree p0_treeSize p0_aboveOf p0_isLeaf p0_stepOf a1 a2 post) : Met l yX10_above wsX10_above ({ frames := 2, cells := 0, slots := 0, locals := 43 }) (va_Pc [.ref h_p0, .int a1, .int a2] (xPre (dC, dI) cI cJ cZ (wld_X10_above cI cJ cZ h_p0 ad_p0 p0_places p0_steps p0_pastFirst p0_past p0_goings p0_rowSize p0_ways p0_hasField p0_fieldSize p0_faultNow p0_hasTree p0_treeSize p0_weightCount p0_roundCount p0_setCount p0_aboveOf p0_isLeaf p0_stepOf) sz)) (q_X10_above dC dI cI cJ cZ h_p0 ad_p0 p0_places p0_steps p0_pastFirst p0_past p0_goings p0_rowSize p0_ways p0_hasField p0_fieldSize p0_faultNow p0_hasTree p0_treeSize p0_weightCount p0_roundCount p0_setCount p0_aboveOf p0_isLeaf p0_stepOf post (va_A (wld_X10_above cI cJ cZ h_p0 ad_p0 p0_places p0_steps p0_pastFirst p0_past p0_goings p0_rowSize p0_ways p0_hasField p0_fieldSize p0_faultNow p0_hasTree p0_treeSize p0_weightCount p0_roundCount p0_setCount p0_aboveOf p0_isLeaf p0_stepOf) sz)) 0 0 (va_A (wld_X10_above cI cJ cZ h_p0 ad_p0 p0_places p0_steps p0_pastFirst p0_past p0_goings p0_rowSize p0_ways p0_hasField p0_fieldSize p0_faultNow p0_hasTree p0_treeSize p0_weightCount p0_roundCount p0_setCount p0_aboveOf p0_isLeaf p0_stepOf) sz) := by
  refine x_met (cc := cX10_above) (maxL := 4) (ret := (some .int)) (own := RX10) (Qc := fun A => (q_X10_above dC dI cI cJ cZ h_p0 ad_p0 p0_places p0_steps p0_pastFirst p0_past p0_goings p0_rowSize p0_ways p0_hasField p0_fieldSize p0_faultNow p0_hasTree p0_treeSize p0_weightCount p0_roundCount p0_setCount p0_aboveOf p0_isLeaf p0_stepOf post A)) (by decide) rfl rfl (Nat.le_of_ble_eq_true rfl) ?_
  intro p e s m args below meth c A ls E0 hP hD hS hl
  obtain ⟨hx, hb, hr, hml, hown, hts, hlocks, hK, hA, n1, n2⟩ := id E0
  have iX10 : ∀ w ∈ u_ws RX10 TX10 50, w ∈ wsX10_above := fun w h => List.mem_cons_of_mem _ (List.mem_append_right _ h)
  have hS0 := hS
  have hl : lv_has ls 4 [(0, .ref h_p0), (1, .int a1), (2, .int a2)] := hl
  unfold w_X10_above at hw
  obtain ⟨H, hH⟩ : ∃ H, H = s.heap := ⟨_, rfl⟩
  have hS : va_S A s.heap H [] := by rw [hH]; exact hS
  have hP : va_P (dC, dI) vwCl (wld_X10_above cI cJ cZ h_p0 ad_p0 p0_places p0_steps p0_pastFirst p0_past p0_goings p0_rowSize p0_ways p0_hasField p0_fieldSize p0_faultNow p0_hasTree p0_treeSize p0_weightCount p0_roundCount p0_setCount p0_aboveOf p0_isLeaf p0_stepOf) H := by rw [hH]; exact hP
  suffices hG : W p l e ({ frames := 2, cells := 0, slots := 0, locals := 43 }) s m args below meth c H [] 0 0 (MQ below (q_X10_above dC dI cI cJ cZ h_p0 ad_p0 p0_places p0_steps p0_pastFirst p0_past p0_goings p0_rowSize p0_ways p0_hasField p0_fieldSize p0_faultNow p0_hasTree p0_treeSize p0_weightCount p0_roundCount p0_setCount p0_aboveOf p0_isLeaf p0_stepOf post A) args s 0 0 A) (F0 m 0 ls []) by rw [hH] at hG; exact hG
  clear hH
  refine lv_iload_n hx hb dX10_above_0 rfl (lv_at hl 2 rfl) ?_
  refine lv_iconst (v := 0) hx hb dX10_above_1 (by decide) ?_
  refine lv_iconst (v := 2) hx hb dX10_above_2 (by decide) ?_
  obtain ⟨hPc, hDc⟩ := x_sub (wc := (wld_X10_isIn cI cJ cZ )) hP hD [] (n := 4) rfl rfl (by decide +kernel)
  refine x_calli (ws' := fun (u : Unit) => (wld_X10_above cI cJ cZ h_p0 ad_p0 p0_places p0_steps p0_pastFirst p0_past p0_goings p0_rowSize p0_ways p0_hasField p0_fieldSize p0_faultNow p0_hasTree p0_treeSize p0_weightCount p0_roundCount p0_setCount p0_aboveOf p0_isLeaf p0_stepOf)) hP hD hS hA [] [0, 1, 2, 3] [0, 1, 2, 3] (n := 4) (k := 0) rfl (fun _ => rfl) rfl (by decide +kernel) (fun _ => rfl) (va_runS (As := [.int a2, .int (0 : Int32), .int (2 : Int32)]) (rest := []) ⟨hx, hb, hml, hown, hts⟩ (c_X10_isIn (l := l) (dC := dC) (dI := dI) (cI := cI) (cJ := cJ) (cZ := cZ) (sz := H.size) hw) (va_cwS 3 hts gX10_above_X10_isIn rfl rfl rfl (by decide +kernel) ⟨Nat.le_of_ble_eq_true rfl, Nat.le_of_ble_eq_true rfl⟩) ⟨xPre_blind, xPre_at hK hPc hDc n1 n2⟩ rfl rfl hl.1 rfl (lv_room (Nat.le_of_ble_eq_true rfl)) dX10_above_3 ⟨Nat.zero_le _, Nat.zero_le _⟩) (fun r1 u H locs hw hP hD hS => ?_)
  try dsimp only at hw
  have hP : va_P (dC, dI) vwCl (wld_X10_above cI cJ cZ h_p0 ad_p0 p0_places p0_steps p0_pastFirst p0_past p0_goings p0_rowSize p0_ways p0_hasField p0_fieldSize p0_faultNow p0_hasTree p0_treeSize p0_weightCount p0_roundCount p0_setCount p0_aboveOf p0_isLeaf p0_stepOf) H := hP
  have hD : va_D A (wld_X10_above cI cJ cZ h_p0 ad_p0 p0_places p0_steps p0_pastFirst p0_past p0_goings p0_rowSize p0_ways p0_hasField p0_fieldSize p0_faultNow p0_hasTree p0_treeSize p0_weightCount p0_roundCount p0_setCount p0_aboveOf p0_isLeaf p0_stepOf) := hD
  refine lv_if_ne (tgt := 12) hx hb dX10_above_6 (by decide) (fun c2 => ?_) (fun c3 => ?_)
  · have hw := hw.1 c2
    refine lv_aload_n hx hb dX10_above_12 rfl (lv_at hl 0 rfl) ?_
    refine lv_iload_n hx hb dX10_above_13 rfl (lv_at hl 1 rfl) ?_
    obtain ⟨hPc, hDc⟩ := x_sub (wc := (wld_X10_askTree cI cJ cZ h_p0 ad_p0 p0_places p0_steps p0_pastFirst p0_past p0_goings p0_rowSize p0_ways p0_hasField p0_fieldSize p0_faultNow p0_hasTree p0_treeSize p0_weightCount p0_roundCount p0_setCount)) hP hD [0] (n := 4) rfl rfl (by decide +kernel)
    refine x_calli (ws' := fun (u : Unit) => (wld_X10_above cI cJ cZ h_p0 ad_p0 p0_places p0_steps p0_pastFirst p0_past p0_goings p0_rowSize p0_ways p0_hasField p0_fieldSize p0_faultNow p0_hasTree p0_treeSize p0_weightCount p0_roundCount p0_setCount p0_aboveOf p0_isLeaf p0_stepOf)) hP hD hS hA [0] [1, 2, 3] [3, 0, 1, 2] (n := 4) (k := 1) rfl (fun _ => rfl) rfl (by decide +kernel) (fun _ => rfl) (va_runV (As := [.int a1]) (rest := []) ⟨hx, hb, hml, hown, hts⟩ (c_X10_askTree (l := l) (dC := dC) (dI := dI) (cI := cI) (cJ := cJ) (cZ := cZ) (sz := H.size) (h_p0 := h_p0) (ad_p0 := ad_p0) (p0_places := p0_places) (p0_steps := p0_steps) (p0_pastFirst := p0_pastFirst) (p0_past := p0_past) (p0_goings := p0_goings) (p0_rowSize := p0_rowSize) (p0_ways := p0_ways) (p0_hasField := p0_hasField) (p0_fieldSize := p0_fieldSize) (p0_faultNow := p0_faultNow) (p0_hasTree := p0_hasTree) (p0_treeSize := p0_treeSize) (p0_weightCount := p0_weightCount) (p0_roundCount := p0_roundCount) (p0_setCount := p0_setCount) hw) (cwV 1 hts gX10_above_X10_askTree rfl rfl rfl (by decide +kernel) ⟨Nat.le_of_ble_eq_true rfl, Nat.le_of_ble_eq_true rfl⟩) ⟨xPre_blind, va_recv hK hP (ci := 10) (q0 := 0) rfl rfl, xPre_at hK hPc hDc n1 n2⟩ rfl rfl hl.1 rfl (lv_room (Nat.le_of_ble_eq_true rfl)) dX10_above_14 ⟨Nat.zero_le _, Nat.zero_le _⟩) (fun r4 u H locs hw hP hD hS => ?_)
    try dsimp only at hw
    have hP : va_P (dC, dI) vwCl (wld_X10_above cI cJ cZ h_p0 ad_p0 p0_places p0_steps p0_pastFirst p0_past p0_goings p0_rowSize p0_ways p0_hasField p0_fieldSize p0_faultNow p0_hasTree p0_treeSize p0_weightCount p0_roundCount p0_setCount p0_aboveOf p0_isLeaf p0_stepOf) H := hP
    have hD : va_D A (wld_X10_above cI cJ cZ h_p0 ad_p0 p0_places p0_steps p0_pastFirst p0_past p0_goings p0_rowSize p0_ways p0_hasField p0_fieldSize p0_faultNow p0_hasTree p0_treeSize p0_weightCount p0_roundCount p0_setCount p0_aboveOf p0_isLeaf p0_stepOf) := hD
    refine lv_istore_n (lv' := [(3, .int r4), (0, .ref h_p0), (1, .int a1), (2, .int a2)]) hx hb dX10_above_17 rfl hl (by decide) rfl (fun ls hl => ?_)
    refine lv_iload_n hx hb dX10_above_18 rfl (lv_at hl 0 rfl) ?_
    refine lv_if_ge (tgt := 24) hx hb dX10_above_19 (by decide) (fun c5 => ?_) (fun c6 => ?_)
    · have hw := hw.1 c5
      refine lv_iload_n hx hb dX10_above_24 rfl (lv_at hl 3 rfl) ?_
      refine lv_if_ne (tgt := 37) hx hb dX10_above_25 (by decide) (fun c7 => ?_) (fun c8 => ?_)
      · have hw := hw.1 c7
        refine lv_iload_n hx hb dX10_above_37 rfl (lv_at hl 3 rfl) ?_
        refine lv_iconst (v := 1) hx hb dX10_above_38 (by decide) ?_
        refine lv_icmp_ne (tgt := 51) hx hb dX10_above_39 (by decide) (fun c9 => ?_) (fun c10 => ?_)
        · have hw := hw.1 c9
          refine lv_aload_n hx hb dX10_above_51 rfl (lv_at hl 1 rfl) ?_
          refine va_get (D := (dC, dI)) (ci := 10) (v := .ref (ad_p0 39)) (C := RX10) (T := TX10) (N := 50) hx hb hts iX10 hown hK hP 0 rfl rfl 39 (by decide) (hts (.fieldLink RX10 99 "NetHouseModel" "isLeaf" "[Z") (by decide +kernel)) (fun _ h9 => h9) rfl dX10_above_52 ?_
          refine lv_iload_n hx hb dX10_above_55 rfl (lv_at hl 2 rfl) ?_
          refine va_zald hx hb hK hP 2 2 rfl rfl hw.1 dX10_above_56 ?_
          have hw := hw.2
          refine lv_if_eq (tgt := 64) hx hb dX10_above_57 (by decide) (fun c11 => ?_) (fun c12 => ?_)
          · have hw := hw.1 c11
            refine lv_iconst (v := 0) hx hb dX10_above_64 (by decide) ?_
            exact x_iret (w1 := fun (u : Unit) => (wld_X10_above cI cJ cZ h_p0 ad_p0 p0_places p0_steps p0_pastFirst p0_past p0_goings p0_rowSize p0_ways p0_hasField p0_fieldSize p0_faultNow p0_hasTree p0_treeSize p0_weightCount p0_roundCount p0_setCount p0_aboveOf p0_isLeaf p0_stepOf)) hx hb hr hlocks () hw hP hD hS dX10_above_65
          · have hw := hw.2 c12
            refine lv_iconst (v := 1) hx hb dX10_above_60 (by decide) ?_
            refine lv_goto (tgt := 65) hx hb dX10_above_61 (by decide) ?_
            exact x_iret (w1 := fun (u : Unit) => (wld_X10_above cI cJ cZ h_p0 ad_p0 p0_places p0_steps p0_pastFirst p0_past p0_goings p0_rowSize p0_ways p0_hasField p0_fieldSize p0_faultNow p0_hasTree p0_treeSize p0_weightCount p0_roundCount p0_setCount p0_aboveOf p0_isLeaf p0_stepOf)) hx hb hr hlocks () hw hP hD hS dX10_above_65
        · have hw := hw.2 c10
          refine lv_aload_n hx hb dX10_above_42 rfl (lv_at hl 1 rfl) ?_
          refine va_get (D := (dC, dI)) (ci := 10) (v := .ref (ad_p0 38)) (C := RX10) (T := TX10) (N := 50) hx hb hts iX10 hown hK hP 0 rfl rfl 38 (by decide) (hts (.fieldLink RX10 96 "NetHouseModel" "stepOf" "[I") (by decide +kernel)) (fun _ h9 => h9) rfl dX10_above_43 ?_
          refine lv_iload_n hx hb dX10_above_46 rfl (lv_at hl 2 rfl) ?_
          refine va_iald hx hb hK hP 3 0 rfl rfl hw.1 dX10_above_47 ?_
          have hw := hw.2
          refine lv_goto (tgt := 65) hx hb dX10_above_48 (by decide) ?_
          exact x_iret (w1 := fun (u : Unit) => (wld_X10_above cI cJ cZ h_p0 ad_p0 p0_places p0_steps p0_pastFirst p0_past p0_goings p0_rowSize p0_ways p0_hasField p0_fieldSize p0_faultNow p0_hasTree p0_treeSize p0_weightCount p0_roundCount p0_setCount p0_aboveOf p0_isLeaf p0_stepOf)) hx hb hr hlocks () hw hP hD hS dX10_above_65
      · have hw := hw.2 c8
        refine lv_aload_n hx hb dX10_above_28 rfl (lv_at hl 1 rfl) ?_
        refine va_get (D := (dC, dI)) (ci := 10) (v := .ref (ad_p0 37)) (C := RX10) (T := TX10) (N := 50) hx hb hts iX10 hown hK hP 0 rfl rfl 37 (by decide) (hts (.fieldLink RX10 93 "NetHouseModel" "aboveOf" "[I") (by decide +kernel)) (fun _ h9 => h9) rfl dX10_above_29 ?_
        refine lv_iload_n hx hb dX10_above_32 rfl (lv_at hl 2 rfl) ?_
        refine va_iald hx hb hK hP 1 0 rfl rfl hw.1 dX10_above_33 ?_
        have hw := hw.2
        refine lv_goto (tgt := 65) hx hb dX10_above_34 (by decide) ?_
        exact x_iret (w1 := fun (u : Unit) => (wld_X10_above cI cJ cZ h_p0 ad_p0 p0_places p0_steps p0_pastFirst p0_past p0_goings p0_rowSize p0_ways p0_hasField p0_fieldSize p0_faultNow p0_hasTree p0_treeSize p0_weightCount p0_roundCount p0_setCount p0_aboveOf p0_isLeaf p0_stepOf)) hx hb hr hlocks () hw hP hD hS dX10_above_65
    · have hw := hw.2 c6
      refine lv_iload_n hx hb dX10_above_22 rfl (lv_at hl 0 rfl) ?_
      exact x_iret (w1 := fun (u : Unit) => (wld_X10_above cI cJ cZ h_p0 ad_p0 p0_places p0_steps p0_pastFirst p0_past p0_goings p0_rowSize p0_ways p0_hasField p0_fieldSize p0_faultNow p0_hasTree p0_treeSize p0_weightCount p0_roundCount p0_setCount p0_aboveOf p0_isLeaf p0_stepOf)) hx hb hr hlocks () hw hP hD hS dX10_above_23
  · have hw := hw.2 c3
    refine lv_ldc (v := -2000000001) hx hb hown (hts (.constant RX10 159 (-2000000001)) (by decide +kernel)) dX10_above_9 ?_
    exact x_iret (w1 := fun (u : Unit) => (wld_X10_above cI cJ cZ h_p0 ad_p0 p0_places p0_steps p0_pastFirst p0_past p0_goings p0_rowSize p0_ways p0_hasField p0_fieldSize p0_faultNow p0_hasTree p0_treeSize p0_weightCount p0_roundCount p0_setCount p0_aboveOf p0_isLeaf p0_stepOf)) hx hb hr hlocks () hw hP hD hS dX10_above_11
abbrev wld_X10_cover (cI cJ cZ : ClassId) (h_p0 : Nat) (ad_p0 : Nat → Nat) (p0_places : Int32) (p0_steps : Int32) (p0_pastFirst : Int32) (p0_past : Int32) (p0_goings : Int32) (p0_rowSize : Int32) (p0_ways : Int32) (p0_hasField : Int32) (p0_fieldSize : Int32) (p0_faultNow : Int32) (p0_hasTree : Int32) (p0_treeSize : Int32) (p0_weightCount : Int32) (p0_roundCount : Int32) (p0_setCount : Int32) (p0_nodes : Nat → Int32) (p0_row : Nat → Int32) : va_W := [(h_p0, .inr (10, [.int p0_places, .int p0_steps, .ref (ad_p0 2), .ref (ad_p0 3), .ref (ad_p0 4), .ref (ad_p0 5), .ref (ad_p0 6), .ref (ad_p0 7), .ref (ad_p0 8), .ref (ad_p0 9), .ref (ad_p0 10), .ref (ad_p0 11), .ref (ad_p0 12), .ref (ad_p0 13), .ref (ad_p0 14), .int p0_pastFirst, .int p0_past, .int p0_goings, .int p0_rowSize, .ref (ad_p0 19), .ref (ad_p0 20), .int p0_ways, .ref (ad_p0 22), .ref (ad_p0 23), .int p0_hasField, .int p0_fieldSize, .ref (ad_p0 26), .ref (ad_p0 27), .ref (ad_p0 28), .ref (ad_p0 29), .ref (ad_p0 30), .ref (ad_p0 31), .ref (ad_p0 32), .int p0_faultNow, .int p0_hasTree, .int p0_treeSize, .ref (ad_p0 36), .ref (ad_p0 37), .ref (ad_p0 38), .ref (ad_p0 39), .ref (ad_p0 40), .ref (ad_p0 41), .ref (ad_p0 42), .int p0_weightCount, .ref (ad_p0 44), .int p0_roundCount, .ref (ad_p0 46), .int p0_setCount, .ref (ad_p0 48), .ref (ad_p0 49)])), ((ad_p0 36), .inl (cI, 32000, .inl p0_nodes)), ((ad_p0 19), .inl (cI, 16, .inl p0_row))]
abbrev q_X10_cover (dC : Nat → ClassId) (dI : Nat → Nat → Nat) (cI cJ cZ : ClassId) (h_p0 : Nat) (ad_p0 : Nat → Nat) (p0_places : Int32) (p0_steps : Int32) (p0_pastFirst : Int32) (p0_past : Int32) (p0_goings : Int32) (p0_rowSize : Int32) (p0_ways : Int32) (p0_hasField : Int32) (p0_fieldSize : Int32) (p0_faultNow : Int32) (p0_hasTree : Int32) (p0_treeSize : Int32) (p0_weightCount : Int32) (p0_roundCount : Int32) (p0_setCount : Int32) (p0_nodes : Nat → Int32) (p0_row : Nat → Int32) (post : Int32 → Prop) (A : Nat → Prop) : Array Value → State → Outcome → State → Prop := va_Qi (fun r (u : Unit) => post r ) (fun (u : Unit) t => xPost (dC, dI) A (wld_X10_cover cI cJ cZ h_p0 ad_p0 p0_places p0_steps p0_pastFirst p0_past p0_goings p0_rowSize p0_ways p0_hasField p0_fieldSize p0_faultNow p0_hasTree p0_treeSize p0_weightCount p0_roundCount p0_setCount p0_nodes p0_row) t) A
def w_X10_cover_L24b (v1 : Int32) (p0_hasTree : Int32) (p0_places : Int32) (p0_rowSize : Int32) (p0_treeSize : Int32) (p0_nodes : Nat → Int32) (p0_row : Nat → Int32) (post : Int32 → Prop) (K : (Int32) → (Int32) → Prop) (rec : (Int32) → (Int32) → Prop) (v2 : Int32) (v3 : Int32) : Prop :=
    (p0_places ≤ v3 →
      K v2 v3) ∧
    (¬ p0_places ≤ v3 →
      (v2 = 0 →
        ∀ x9 : Int32, x9 = v3 + (1 : Int32) →
        rec (0 : Int32) x9) ∧
      (¬ v2 = 0 →
        vp_in (((16 : Int32) * v1) + v3) 32000 ∧
        ((p0_nodes (((16 : Int32) * v1) + v3).toNatClampNeg) < 0 →
          ∀ x12 : Int32, x12 = v3 + (1 : Int32) →
          rec (1 : Int32) x12) ∧
        (¬ (p0_nodes (((16 : Int32) * v1) + v3).toNatClampNeg) < 0 →
          vp_in (((16 : Int32) * v1) + v3) 32000 ∧
          w_X10_told p0_rowSize p0_row v3 (fun r13 =>
          ((p0_nodes (((16 : Int32) * v1) + v3).toNatClampNeg) < r13 →
            ∀ x16 : Int32, x16 = v3 + (1 : Int32) →
            rec (0 : Int32) x16) ∧
          (¬ (p0_nodes (((16 : Int32) * v1) + v3).toNatClampNeg) < r13 →
            ∀ x17 : Int32, x17 = v3 + (1 : Int32) →
            rec (1 : Int32) x17)))))
def w_X10_cover_L24 (v1 : Int32) (p0_hasTree : Int32) (p0_places : Int32) (p0_rowSize : Int32) (p0_treeSize : Int32) (p0_nodes : Nat → Int32) (p0_row : Nat → Int32) (post : Int32 → Prop) (K : (Int32) → (Int32) → Prop) : Nat → (Int32) → (Int32) → Prop
  | 0, _, _ => False
  | n + 1, v2, v3 => w_X10_cover_L24b v1 p0_hasTree p0_places p0_rowSize p0_treeSize p0_nodes p0_row post K (w_X10_cover_L24 v1 p0_hasTree p0_places p0_rowSize p0_treeSize p0_nodes p0_row post K n) v2 v3
def w_X10_cover_L12b (p0_hasTree : Int32) (p0_places : Int32) (p0_rowSize : Int32) (p0_treeSize : Int32) (p0_nodes : Nat → Int32) (p0_row : Nat → Int32) (post : Int32 → Prop) (K : (Int32) → Prop) (rec : (Int32) → Prop) (v1 : Int32) : Prop :=
    (p0_treeSize ≤ v1 →
      K v1) ∧
    (¬ p0_treeSize ≤ v1 →
      ∃ n : Nat, w_X10_cover_L24 v1 p0_hasTree p0_places p0_rowSize p0_treeSize p0_nodes p0_row post (fun v19 v20 =>
          (v19 = 0 →
            ∀ x23 : Int32, x23 = v1 + (1 : Int32) →
            rec x23) ∧
          (¬ v19 = 0 →
            (post v1))) n (1 : Int32) (0 : Int32))
def w_X10_cover_L12 (p0_hasTree : Int32) (p0_places : Int32) (p0_rowSize : Int32) (p0_treeSize : Int32) (p0_nodes : Nat → Int32) (p0_row : Nat → Int32) (post : Int32 → Prop) (K : (Int32) → Prop) : Nat → (Int32) → Prop
  | 0, _ => False
  | n + 1, v1 => w_X10_cover_L12b p0_hasTree p0_places p0_rowSize p0_treeSize p0_nodes p0_row post K (w_X10_cover_L12 p0_hasTree p0_places p0_rowSize p0_treeSize p0_nodes p0_row post K n) v1
def w_X10_cover (p0_hasTree : Int32) (p0_places : Int32) (p0_rowSize : Int32) (p0_treeSize : Int32) (p0_nodes : Nat → Int32) (p0_row : Nat → Int32) (post : Int32 → Prop) : Prop :=
  (¬ p0_hasTree = 0 →
    ∃ n : Nat, w_X10_cover_L12 p0_hasTree p0_places p0_rowSize p0_treeSize p0_nodes p0_row post (fun v25 =>
        (post (-2000000005 : Int32))) n (0 : Int32)) ∧
  (p0_hasTree = 0 →
    (post (-2000000002 : Int32)))
set_option maxHeartbeats 4000000 in
set_option maxRecDepth 100000 in
theorem c_X10_cover_L24 {p : Program} {l : Launch} {e : Env} {s : State} {m : MethodId} {args : Array Value} {below : List Frame} {meth : Method} {c : Code} {dC : Nat → ClassId} {dI : Nat → Nat → Nat} {A : Nat → Prop} {cI cJ cZ : ClassId} {h_p0 : Nat} {ad_p0 : Nat → Nat} {p0_places : Int32} {p0_steps : Int32} {p0_pastFirst : Int32} {p0_past : Int32} {p0_goings : Int32} {p0_rowSize : Int32} {p0_ways : Int32} {p0_hasField : Int32} {p0_fieldSize : Int32} {p0_faultNow : Int32} {p0_hasTree : Int32} {p0_treeSize : Int32} {p0_weightCount : Int32} {p0_roundCount : Int32} {p0_setCount : Int32} {p0_nodes : Nat → Int32} {p0_row : Nat → Int32} {v1 : Int32}  {post : Int32 → Prop} {K : (Int32) → (Int32) → Prop} (E0 : xEnv p s m args meth c cX10_cover (some .int) 4 RX10 wsX10_cover (dC, dI) cI cJ cZ A) (hk : ∀ (v2 : Int32) (v3 : Int32) (H : Heap) (locs : List Loc) (ls : Array Slot), K v2 v3 → va_P (dC, dI) vwCl (wld_X10_cover cI cJ cZ h_p0 ad_p0 p0_places p0_steps p0_pastFirst p0_past p0_goings p0_rowSize p0_ways p0_hasField p0_fieldSize p0_faultNow p0_hasTree p0_treeSize p0_weightCount p0_roundCount p0_setCount p0_nodes p0_row) H → va_D A (wld_X10_cover cI cJ cZ h_p0 ad_p0 p0_places p0_steps p0_pastFirst p0_past p0_goings p0_rowSize p0_ways p0_hasField p0_fieldSize p0_faultNow p0_hasTree p0_treeSize p0_weightCount p0_roundCount p0_setCount p0_nodes p0_row) → va_S A s.heap H locs → lv_has ls 4 [(0, .ref h_p0), (1, .int v1), (2, .int v2)] → W p l e ({ frames := 1, cells := 0, slots := 0, locals := 21 }) s m args below meth c H locs 0 0 (MQ below (q_X10_cover dC dI cI cJ cZ h_p0 ad_p0 p0_places p0_steps p0_pastFirst p0_past p0_goings p0_rowSize p0_ways p0_hasField p0_fieldSize p0_faultNow p0_hasTree p0_treeSize p0_weightCount p0_roundCount p0_setCount p0_nodes p0_row post A) args s 0 0 A) (F0 m 81 ls [])) : ∀ (n : Nat) (v2 : Int32) (v3 : Int32), w_X10_cover_L24 v1 p0_hasTree p0_places p0_rowSize p0_treeSize p0_nodes p0_row post K n v2 v3 → ∀ (H : Heap) (locs : List Loc) (ls : Array Slot), va_P (dC, dI) vwCl (wld_X10_cover cI cJ cZ h_p0 ad_p0 p0_places p0_steps p0_pastFirst p0_past p0_goings p0_rowSize p0_ways p0_hasField p0_fieldSize p0_faultNow p0_hasTree p0_treeSize p0_weightCount p0_roundCount p0_setCount p0_nodes p0_row) H → va_D A (wld_X10_cover cI cJ cZ h_p0 ad_p0 p0_places p0_steps p0_pastFirst p0_past p0_goings p0_rowSize p0_ways p0_hasField p0_fieldSize p0_faultNow p0_hasTree p0_treeSize p0_weightCount p0_roundCount p0_setCount p0_nodes p0_row) → va_S A s.heap H locs → lv_has ls 4 [(0, .ref h_p0), (1, .int v1), (2, .int v2), (3, .int v3)] → W p l e ({ frames := 1, cells := 0, slots := 0, locals := 21 }) s m args below meth c H locs 0 0 (MQ below (q_X10_cover dC dI cI cJ cZ h_p0 ad_p0 p0_places p0_steps p0_pastFirst p0_past p0_goings p0_rowSize p0_ways p0_hasField p0_fieldSize p0_faultNow p0_hasTree p0_treeSize p0_weightCount p0_roundCount p0_setCount p0_nodes p0_row post A) args s 0 0 A) (F0 m 24 ls []) := by
  obtain ⟨hx, hb, hr, hml, hown, hts, hlocks, hK, hA, n1, n2⟩ := id E0
  have iX10 : ∀ w ∈ u_ws RX10 TX10 50, w ∈ wsX10_cover := fun w h => List.mem_cons_of_mem _ (List.mem_append_right _ h)
  intro n
  induction n with
  | zero => intro v2 v3 hw; exact hw.elim
  | succ n ih =>
    intro v2 v3 hw H locs ls hP hD hS hl
    have hw : w_X10_cover_L24b v1 p0_hasTree p0_places p0_rowSize p0_treeSize p0_nodes p0_row post K (w_X10_cover_L24 v1 p0_hasTree p0_places p0_rowSize p0_treeSize p0_nodes p0_row post K n) v2 v3 := hw
    unfold w_X10_cover_L24b at hw
    refine lv_iload_n hx hb dX10_cover_24 rfl (lv_at hl 3 rfl) ?_
    refine lv_aload_n hx hb dX10_cover_25 rfl (lv_at hl 0 rfl) ?_
    refine va_get (D := (dC, dI)) (ci := 10) (v := .int p0_places) (C := RX10) (T := TX10) (N := 50) hx hb hts iX10 hown hK hP 0 rfl rfl 0 (by decide) (hts (.fieldLink RX10 127 "NetHouseModel" "places" "I") (by decide +kernel)) (fun _ h9 => h9) rfl dX10_cover_26 ?_
    refine lv_icmp_ge (tgt := 81) hx hb dX10_cover_29 (by decide) (fun c5 => ?_) (fun c6 => ?_)
    · have hw := hw.1 c5
      exact hk _ _ _ _ _ hw hP hD hS (lv_sub hl [0, 1, 2] rfl)
    · have hw := hw.2 c6
      refine lv_iload_n hx hb dX10_cover_32 rfl (lv_at hl 2 rfl) ?_
      refine lv_if_eq (tgt := 73) hx hb dX10_cover_33 (by decide) (fun c7 => ?_) (fun c8 => ?_)
      · have hw := hw.1 c7
        refine lv_iconst (v := 0) hx hb dX10_cover_73 (by decide) ?_
        refine lv_istore_n (lv' := [(2, .int (0 : Int32)), (0, .ref h_p0), (1, .int v1), (3, .int v3)]) hx hb dX10_cover_74 rfl hl (by decide) rfl (fun ls hl => ?_)
        obtain ⟨x9, ex9⟩ : ∃ y : Int32, y = v3 + (1 : Int32) := ⟨_, rfl⟩
        have hw := hw x9 ex9
        refine lv_iinc (v := x9) (lv' := [(3, .int x9), (2, .int (0 : Int32)), (0, .ref h_p0), (1, .int v1)]) hx hb dX10_cover_75 hl (k := 3) rfl (by rw [ex9]; rfl) (by decide) rfl (fun ls hl => ?_)
        refine lv_goto (tgt := 24) hx hb dX10_cover_78 (by decide) ?_
        exact ih _ _ hw _ _ _ hP hD hS (lv_sub hl [2, 3, 1, 0] rfl)
      · have hw := hw.2 c8
        refine lv_aload_n hx hb dX10_cover_36 rfl (lv_at hl 0 rfl) ?_
        refine va_get (D := (dC, dI)) (ci := 10) (v := .ref (ad_p0 36)) (C := RX10) (T := TX10) (N := 50) hx hb hts iX10 hown hK hP 0 rfl rfl 36 (by decide) (hts (.fieldLink RX10 90 "NetHouseModel" "nodes" "[I") (by decide +kernel)) (fun _ h9 => h9) rfl dX10_cover_37 ?_
        refine lv_bipush (v := 16) hx hb dX10_cover_40 (by decide) ?_
        refine lv_iload_n hx hb dX10_cover_42 rfl (lv_at hl 1 rfl) ?_
        refine lv_imul hx hb dX10_cover_43 ?_
        refine lv_iload_n hx hb dX10_cover_44 rfl (lv_at hl 3 rfl) ?_
        refine lv_iadd hx hb dX10_cover_45 ?_
        refine va_iald hx hb hK hP 1 0 rfl rfl hw.1 dX10_cover_46 ?_
        have hw := hw.2
        refine lv_if_lt (tgt := 69) hx hb dX10_cover_47 (by decide) (fun c10 => ?_) (fun c11 => ?_)
        · have hw := hw.1 c10
          refine lv_iconst (v := 1) hx hb dX10_cover_69 (by decide) ?_
          refine lv_goto (tgt := 74) hx hb dX10_cover_70 (by decide) ?_
          refine lv_istore_n (lv' := [(2, .int (1 : Int32)), (0, .ref h_p0), (1, .int v1), (3, .int v3)]) hx hb dX10_cover_74 rfl hl (by decide) rfl (fun ls hl => ?_)
          obtain ⟨x12, ex12⟩ : ∃ y : Int32, y = v3 + (1 : Int32) := ⟨_, rfl⟩
          have hw := hw x12 ex12
          refine lv_iinc (v := x12) (lv' := [(3, .int x12), (2, .int (1 : Int32)), (0, .ref h_p0), (1, .int v1)]) hx hb dX10_cover_75 hl (k := 3) rfl (by rw [ex12]; rfl) (by decide) rfl (fun ls hl => ?_)
          refine lv_goto (tgt := 24) hx hb dX10_cover_78 (by decide) ?_
          exact ih _ _ hw _ _ _ hP hD hS (lv_sub hl [2, 3, 1, 0] rfl)
        · have hw := hw.2 c11
          refine lv_aload_n hx hb dX10_cover_50 rfl (lv_at hl 0 rfl) ?_
          refine va_get (D := (dC, dI)) (ci := 10) (v := .ref (ad_p0 36)) (C := RX10) (T := TX10) (N := 50) hx hb hts iX10 hown hK hP 0 rfl rfl 36 (by decide) (hts (.fieldLink RX10 90 "NetHouseModel" "nodes" "[I") (by decide +kernel)) (fun _ h9 => h9) rfl dX10_cover_51 ?_
          refine lv_bipush (v := 16) hx hb dX10_cover_54 (by decide) ?_
          refine lv_iload_n hx hb dX10_cover_56 rfl (lv_at hl 1 rfl) ?_
          refine lv_imul hx hb dX10_cover_57 ?_
          refine lv_iload_n hx hb dX10_cover_58 rfl (lv_at hl 3 rfl) ?_
          refine lv_iadd hx hb dX10_cover_59 ?_
          refine va_iald hx hb hK hP 1 0 rfl rfl hw.1 dX10_cover_60 ?_
          have hw := hw.2
          refine lv_aload_n hx hb dX10_cover_61 rfl (lv_at hl 0 rfl) ?_
          refine lv_iload_n hx hb dX10_cover_62 rfl (lv_at hl 3 rfl) ?_
          obtain ⟨hPc, hDc⟩ := x_sub (wc := (wld_X10_told cI cJ cZ h_p0 ad_p0 p0_places p0_steps p0_pastFirst p0_past p0_goings p0_rowSize p0_ways p0_hasField p0_fieldSize p0_faultNow p0_hasTree p0_treeSize p0_weightCount p0_roundCount p0_setCount p0_row)) hP hD [0, 2] (n := 3) rfl rfl (by decide +kernel)
          refine x_calli (ws' := fun (u : Unit) => (wld_X10_cover cI cJ cZ h_p0 ad_p0 p0_places p0_steps p0_pastFirst p0_past p0_goings p0_rowSize p0_ways p0_hasField p0_fieldSize p0_faultNow p0_hasTree p0_treeSize p0_weightCount p0_roundCount p0_setCount p0_nodes p0_row)) hP hD hS hA [0, 2] [1] [1, 0, 2] (n := 3) (k := 2) rfl (fun _ => rfl) rfl (by decide +kernel) (fun _ => rfl) (va_runV (As := [.int v3]) (rest := [.int (p0_nodes (((16 : Int32) * v1) + v3).toNatClampNeg)]) ⟨hx, hb, hml, hown, hts⟩ (c_X10_told (l := l) (dC := dC) (dI := dI) (cI := cI) (cJ := cJ) (cZ := cZ) (sz := H.size) (h_p0 := h_p0) (ad_p0 := ad_p0) (p0_places := p0_places) (p0_steps := p0_steps) (p0_pastFirst := p0_pastFirst) (p0_past := p0_past) (p0_goings := p0_goings) (p0_rowSize := p0_rowSize) (p0_ways := p0_ways) (p0_hasField := p0_hasField) (p0_fieldSize := p0_fieldSize) (p0_faultNow := p0_faultNow) (p0_hasTree := p0_hasTree) (p0_treeSize := p0_treeSize) (p0_weightCount := p0_weightCount) (p0_roundCount := p0_roundCount) (p0_setCount := p0_setCount) (p0_row := p0_row) hw) (cwV 1 hts gX10_cover_X10_told rfl rfl rfl (by decide +kernel) ⟨Nat.le_of_ble_eq_true rfl, Nat.le_of_ble_eq_true rfl⟩) ⟨xPre_blind, va_recv hK hP (ci := 10) (q0 := 0) rfl rfl, xPre_at hK hPc hDc n1 n2⟩ rfl rfl hl.1 rfl (lv_room (Nat.le_of_ble_eq_true rfl)) dX10_cover_63 ⟨Nat.zero_le _, Nat.zero_le _⟩) (fun r13 u H locs hw hP hD hS => ?_)
          try dsimp only at hw
          have hP : va_P (dC, dI) vwCl (wld_X10_cover cI cJ cZ h_p0 ad_p0 p0_places p0_steps p0_pastFirst p0_past p0_goings p0_rowSize p0_ways p0_hasField p0_fieldSize p0_faultNow p0_hasTree p0_treeSize p0_weightCount p0_roundCount p0_setCount p0_nodes p0_row) H := hP
          have hD : va_D A (wld_X10_cover cI cJ cZ h_p0 ad_p0 p0_places p0_steps p0_pastFirst p0_past p0_goings p0_rowSize p0_ways p0_hasField p0_fieldSize p0_faultNow p0_hasTree p0_treeSize p0_weightCount p0_roundCount p0_setCount p0_nodes p0_row) := hD
          refine lv_icmp_lt (tgt := 73) hx hb dX10_cover_66 (by decide) (fun c14 => ?_) (fun c15 => ?_)
          · have hw := hw.1 c14
            refine lv_iconst (v := 0) hx hb dX10_cover_73 (by decide) ?_
            refine lv_istore_n (lv' := [(2, .int (0 : Int32)), (0, .ref h_p0), (1, .int v1), (3, .int v3)]) hx hb dX10_cover_74 rfl hl (by decide) rfl (fun ls hl => ?_)
            obtain ⟨x16, ex16⟩ : ∃ y : Int32, y = v3 + (1 : Int32) := ⟨_, rfl⟩
            have hw := hw x16 ex16
            refine lv_iinc (v := x16) (lv' := [(3, .int x16), (2, .int (0 : Int32)), (0, .ref h_p0), (1, .int v1)]) hx hb dX10_cover_75 hl (k := 3) rfl (by rw [ex16]; rfl) (by decide) rfl (fun ls hl => ?_)
            refine lv_goto (tgt := 24) hx hb dX10_cover_78 (by decide) ?_
            exact ih _ _ hw _ _ _ hP hD hS (lv_sub hl [2, 3, 1, 0] rfl)
          · have hw := hw.2 c15
            refine lv_iconst (v := 1) hx hb dX10_cover_69 (by decide) ?_
            refine lv_goto (tgt := 74) hx hb dX10_cover_70 (by decide) ?_
            refine lv_istore_n (lv' := [(2, .int (1 : Int32)), (0, .ref h_p0), (1, .int v1), (3, .int v3)]) hx hb dX10_cover_74 rfl hl (by decide) rfl (fun ls hl => ?_)
            obtain ⟨x17, ex17⟩ : ∃ y : Int32, y = v3 + (1 : Int32) := ⟨_, rfl⟩
            have hw := hw x17 ex17
            refine lv_iinc (v := x17) (lv' := [(3, .int x17), (2, .int (1 : Int32)), (0, .ref h_p0), (1, .int v1)]) hx hb dX10_cover_75 hl (k := 3) rfl (by rw [ex17]; rfl) (by decide) rfl (fun ls hl => ?_)
            refine lv_goto (tgt := 24) hx hb dX10_cover_78 (by decide) ?_
            exact ih _ _ hw _ _ _ hP hD hS (lv_sub hl [2, 3, 1, 0] rfl)
set_option maxHeartbeats 4000000 in
set_option maxRecDepth 100000 in
theorem c_X10_cover_L12 {p : Program} {l : Launch} {e : Env} {s : State} {m : MethodId} {args : Array Value} {below : List Frame} {meth : Method} {c : Code} {dC : Nat → ClassId} {dI : Nat → Nat → Nat} {A : Nat → Prop} {cI cJ cZ : ClassId} {h_p0 : Nat} {ad_p0 : Nat → Nat} {p0_places : Int32} {p0_steps : Int32} {p0_pastFirst : Int32} {p0_past : Int32} {p0_goings : Int32} {p0_rowSize : Int32} {p0_ways : Int32} {p0_hasField : Int32} {p0_fieldSize : Int32} {p0_faultNow : Int32} {p0_hasTree : Int32} {p0_treeSize : Int32} {p0_weightCount : Int32} {p0_roundCount : Int32} {p0_setCount : Int32} {p0_nodes : Nat → Int32} {p0_row : Nat → Int32}  {post : Int32 → Prop} {K : (Int32) → Prop} (E0 : xEnv p s m args meth c cX10_cover (some .int) 4 RX10 wsX10_cover (dC, dI) cI cJ cZ A) (hk : ∀ (v1 : Int32) (H : Heap) (locs : List Loc) (ls : Array Slot), K v1 → va_P (dC, dI) vwCl (wld_X10_cover cI cJ cZ h_p0 ad_p0 p0_places p0_steps p0_pastFirst p0_past p0_goings p0_rowSize p0_ways p0_hasField p0_fieldSize p0_faultNow p0_hasTree p0_treeSize p0_weightCount p0_roundCount p0_setCount p0_nodes p0_row) H → va_D A (wld_X10_cover cI cJ cZ h_p0 ad_p0 p0_places p0_steps p0_pastFirst p0_past p0_goings p0_rowSize p0_ways p0_hasField p0_fieldSize p0_faultNow p0_hasTree p0_treeSize p0_weightCount p0_roundCount p0_setCount p0_nodes p0_row) → va_S A s.heap H locs → lv_has ls 4 [] → W p l e ({ frames := 1, cells := 0, slots := 0, locals := 21 }) s m args below meth c H locs 0 0 (MQ below (q_X10_cover dC dI cI cJ cZ h_p0 ad_p0 p0_places p0_steps p0_pastFirst p0_past p0_goings p0_rowSize p0_ways p0_hasField p0_fieldSize p0_faultNow p0_hasTree p0_treeSize p0_weightCount p0_roundCount p0_setCount p0_nodes p0_row post A) args s 0 0 A) (F0 m 93 ls [])) : ∀ (n : Nat) (v1 : Int32), w_X10_cover_L12 p0_hasTree p0_places p0_rowSize p0_treeSize p0_nodes p0_row post K n v1 → ∀ (H : Heap) (locs : List Loc) (ls : Array Slot), va_P (dC, dI) vwCl (wld_X10_cover cI cJ cZ h_p0 ad_p0 p0_places p0_steps p0_pastFirst p0_past p0_goings p0_rowSize p0_ways p0_hasField p0_fieldSize p0_faultNow p0_hasTree p0_treeSize p0_weightCount p0_roundCount p0_setCount p0_nodes p0_row) H → va_D A (wld_X10_cover cI cJ cZ h_p0 ad_p0 p0_places p0_steps p0_pastFirst p0_past p0_goings p0_rowSize p0_ways p0_hasField p0_fieldSize p0_faultNow p0_hasTree p0_treeSize p0_weightCount p0_roundCount p0_setCount p0_nodes p0_row) → va_S A s.heap H locs → lv_has ls 4 [(0, .ref h_p0), (1, .int v1)] → W p l e ({ frames := 1, cells := 0, slots := 0, locals := 21 }) s m args below meth c H locs 0 0 (MQ below (q_X10_cover dC dI cI cJ cZ h_p0 ad_p0 p0_places p0_steps p0_pastFirst p0_past p0_goings p0_rowSize p0_ways p0_hasField p0_fieldSize p0_faultNow p0_hasTree p0_treeSize p0_weightCount p0_roundCount p0_setCount p0_nodes p0_row post A) args s 0 0 A) (F0 m 12 ls []) := by
  obtain ⟨hx, hb, hr, hml, hown, hts, hlocks, hK, hA, n1, n2⟩ := id E0
  have iX10 : ∀ w ∈ u_ws RX10 TX10 50, w ∈ wsX10_cover := fun w h => List.mem_cons_of_mem _ (List.mem_append_right _ h)
  intro n
  induction n with
  | zero => intro v1 hw; exact hw.elim
  | succ n ih =>
    intro v1 hw H locs ls hP hD hS hl
    have hw : w_X10_cover_L12b p0_hasTree p0_places p0_rowSize p0_treeSize p0_nodes p0_row post K (w_X10_cover_L12 p0_hasTree p0_places p0_rowSize p0_treeSize p0_nodes p0_row post K n) v1 := hw
    unfold w_X10_cover_L12b at hw
    refine lv_iload_n hx hb dX10_cover_12 rfl (lv_at hl 1 rfl) ?_
    refine lv_aload_n hx hb dX10_cover_13 rfl (lv_at hl 0 rfl) ?_
    refine va_get (D := (dC, dI)) (ci := 10) (v := .int p0_treeSize) (C := RX10) (T := TX10) (N := 50) hx hb hts iX10 hown hK hP 0 rfl rfl 35 (by decide) (hts (.fieldLink RX10 140 "NetHouseModel" "treeSize" "I") (by decide +kernel)) (fun _ h9 => h9) rfl dX10_cover_14 ?_
    refine lv_icmp_ge (tgt := 93) hx hb dX10_cover_17 (by decide) (fun c3 => ?_) (fun c4 => ?_)
    · have hw := hw.1 c3
      exact hk _ _ _ _ hw hP hD hS (lv_sub hl [] rfl)
    · have hw := hw.2 c4
      refine lv_iconst (v := 1) hx hb dX10_cover_20 (by decide) ?_
      refine lv_istore_n (lv' := [(2, .int (1 : Int32)), (0, .ref h_p0), (1, .int v1)]) hx hb dX10_cover_21 rfl hl (by decide) rfl (fun ls hl => ?_)
      refine lv_iconst (v := 0) hx hb dX10_cover_22 (by decide) ?_
      refine lv_istore_n (lv' := [(3, .int (0 : Int32)), (2, .int (1 : Int32)), (0, .ref h_p0), (1, .int v1)]) hx hb dX10_cover_23 rfl hl (by decide) rfl (fun ls hl => ?_)
      obtain ⟨n18, hw⟩ := hw
      refine c_X10_cover_L24 (l := l)  E0 ?_ n18 _ _ hw _ _ _ hP hD hS (lv_sub hl [2, 3, 1, 0] rfl)
      · intro v19 v20 H locs ls hw hP hD hS hl
        have hP : va_P (dC, dI) vwCl (wld_X10_cover cI cJ cZ h_p0 ad_p0 p0_places p0_steps p0_pastFirst p0_past p0_goings p0_rowSize p0_ways p0_hasField p0_fieldSize p0_faultNow p0_hasTree p0_treeSize p0_weightCount p0_roundCount p0_setCount p0_nodes p0_row) H := hP
        have hD : va_D A (wld_X10_cover cI cJ cZ h_p0 ad_p0 p0_places p0_steps p0_pastFirst p0_past p0_goings p0_rowSize p0_ways p0_hasField p0_fieldSize p0_faultNow p0_hasTree p0_treeSize p0_weightCount p0_roundCount p0_setCount p0_nodes p0_row) := hD
        refine lv_iload_n hx hb dX10_cover_81 rfl (lv_at hl 2 rfl) ?_
        refine lv_if_eq (tgt := 87) hx hb dX10_cover_82 (by decide) (fun c21 => ?_) (fun c22 => ?_)
        · have hw := hw.1 c21
          obtain ⟨x23, ex23⟩ : ∃ y : Int32, y = v1 + (1 : Int32) := ⟨_, rfl⟩
          have hw := hw x23 ex23
          refine lv_iinc (v := x23) (lv' := [(1, .int x23), (0, .ref h_p0), (2, .int v19)]) hx hb dX10_cover_87 hl (k := 1) rfl (by rw [ex23]; rfl) (by decide) rfl (fun ls hl => ?_)
          refine lv_goto (tgt := 12) hx hb dX10_cover_90 (by decide) ?_
          exact ih _ hw _ _ _ hP hD hS (lv_sub hl [1, 0] rfl)
        · have hw := hw.2 c22
          refine lv_iload_n hx hb dX10_cover_85 rfl (lv_at hl 1 rfl) ?_
          exact x_iret (w1 := fun (u : Unit) => (wld_X10_cover cI cJ cZ h_p0 ad_p0 p0_places p0_steps p0_pastFirst p0_past p0_goings p0_rowSize p0_ways p0_hasField p0_fieldSize p0_faultNow p0_hasTree p0_treeSize p0_weightCount p0_roundCount p0_setCount p0_nodes p0_row)) hx hb hr hlocks () hw hP hD hS dX10_cover_86
set_option maxHeartbeats 4000000 in
set_option maxRecDepth 100000 in
theorem c_X10_cover {l : Launch} {dC : Nat → ClassId} {dI : Nat → Nat → Nat} {sz : Nat} {cI cJ cZ : ClassId} {h_p0 : Nat} {ad_p0 : Nat → Nat} {p0_places : Int32} {p0_steps : Int32} {p0_pastFirst : Int32} {p0_past : Int32} {p0_goings : Int32} {p0_rowSize : Int32} {p0_ways : Int32} {p0_hasField : Int32} {p0_fieldSize : Int32} {p0_faultNow : Int32} {p0_hasTree : Int32} {p0_treeSize : Int32} {p0_weightCount : Int32} {p0_roundCount : Int32} {p0_setCount : Int32} {p0_nodes : Nat → Int32} {p0_row : Nat → Int32}  {post : Int32 → Prop} (hw : w_X10_cover p0_hasTree p0_places p0_rowSize p0_treeSize p0_nodes p0_row post) : Met l yX10_cover wsX10_cover ({ frames := 1, cells := 0, slots := 0, locals := 21 }) (va_Pc [.ref h_p0] (xPre (dC, dI) cI cJ cZ (wld_X10_cover cI cJ cZ h_p0 ad_p0 p0_places p0_steps p0_pastFirst p0_past p0_goings p0_rowSize p0_ways p0_hasField p0_fieldSize p0_faultNow p0_hasTree p0_treeSize p0_weightCount p0_roundCount p0_setCount p0_nodes p0_row) sz)) (q_X10_cover dC dI cI cJ cZ h_p0 ad_p0 p0_places p0_steps p0_pastFirst p0_past p0_goings p0_rowSize p0_ways p0_hasField p0_fieldSize p0_faultNow p0_hasTree p0_treeSize p0_weightCount p0_roundCount p0_setCount p0_nodes p0_row post (va_A (wld_X10_cover cI cJ cZ h_p0 ad_p0 p0_places p0_steps p0_pastFirst p0_past p0_goings p0_rowSize p0_ways p0_hasField p0_fieldSize p0_faultNow p0_hasTree p0_treeSize p0_weightCount p0_roundCount p0_setCount p0_nodes p0_row) sz)) 0 0 (va_A (wld_X10_cover cI cJ cZ h_p0 ad_p0 p0_places p0_steps p0_pastFirst p0_past p0_goings p0_rowSize p0_ways p0_hasField p0_fieldSize p0_faultNow p0_hasTree p0_treeSize p0_weightCount p0_roundCount p0_setCount p0_nodes p0_row) sz) := by
  refine x_met (cc := cX10_cover) (maxL := 4) (ret := (some .int)) (own := RX10) (Qc := fun A => (q_X10_cover dC dI cI cJ cZ h_p0 ad_p0 p0_places p0_steps p0_pastFirst p0_past p0_goings p0_rowSize p0_ways p0_hasField p0_fieldSize p0_faultNow p0_hasTree p0_treeSize p0_weightCount p0_roundCount p0_setCount p0_nodes p0_row post A)) (by decide) rfl rfl (Nat.le_of_ble_eq_true rfl) ?_
  intro p e s m args below meth c A ls E0 hP hD hS hl
  obtain ⟨hx, hb, hr, hml, hown, hts, hlocks, hK, hA, n1, n2⟩ := id E0
  have iX10 : ∀ w ∈ u_ws RX10 TX10 50, w ∈ wsX10_cover := fun w h => List.mem_cons_of_mem _ (List.mem_append_right _ h)
  have hS0 := hS
  have hl : lv_has ls 4 [(0, .ref h_p0)] := hl
  unfold w_X10_cover at hw
  obtain ⟨H, hH⟩ : ∃ H, H = s.heap := ⟨_, rfl⟩
  have hS : va_S A s.heap H [] := by rw [hH]; exact hS
  have hP : va_P (dC, dI) vwCl (wld_X10_cover cI cJ cZ h_p0 ad_p0 p0_places p0_steps p0_pastFirst p0_past p0_goings p0_rowSize p0_ways p0_hasField p0_fieldSize p0_faultNow p0_hasTree p0_treeSize p0_weightCount p0_roundCount p0_setCount p0_nodes p0_row) H := by rw [hH]; exact hP
  suffices hG : W p l e ({ frames := 1, cells := 0, slots := 0, locals := 21 }) s m args below meth c H [] 0 0 (MQ below (q_X10_cover dC dI cI cJ cZ h_p0 ad_p0 p0_places p0_steps p0_pastFirst p0_past p0_goings p0_rowSize p0_ways p0_hasField p0_fieldSize p0_faultNow p0_hasTree p0_treeSize p0_weightCount p0_roundCount p0_setCount p0_nodes p0_row post A) args s 0 0 A) (F0 m 0 ls []) by rw [hH] at hG; exact hG
  clear hH
  refine lv_aload_n hx hb dX10_cover_0 rfl (lv_at hl 0 rfl) ?_
  refine va_get (D := (dC, dI)) (ci := 10) (v := .int p0_hasTree) (C := RX10) (T := TX10) (N := 50) hx hb hts iX10 hown hK hP 0 rfl rfl 34 (by decide) (hts (.fieldLink RX10 137 "NetHouseModel" "hasTree" "Z") (by decide +kernel)) (fun _ h9 => h9) rfl dX10_cover_1 ?_
  refine lv_if_ne (tgt := 10) hx hb dX10_cover_4 (by decide) (fun c1 => ?_) (fun c2 => ?_)
  · have hw := hw.1 c1
    refine lv_iconst (v := 0) hx hb dX10_cover_10 (by decide) ?_
    refine lv_istore_n (lv' := [(1, .int (0 : Int32)), (0, .ref h_p0)]) hx hb dX10_cover_11 rfl hl (by decide) rfl (fun ls hl => ?_)
    obtain ⟨n24, hw⟩ := hw
    refine c_X10_cover_L12 (l := l)  E0 ?_ n24 _ hw _ _ _ hP hD hS (lv_sub hl [1, 0] rfl)
    · intro v25 H locs ls hw hP hD hS hl
      have hP : va_P (dC, dI) vwCl (wld_X10_cover cI cJ cZ h_p0 ad_p0 p0_places p0_steps p0_pastFirst p0_past p0_goings p0_rowSize p0_ways p0_hasField p0_fieldSize p0_faultNow p0_hasTree p0_treeSize p0_weightCount p0_roundCount p0_setCount p0_nodes p0_row) H := hP
      have hD : va_D A (wld_X10_cover cI cJ cZ h_p0 ad_p0 p0_places p0_steps p0_pastFirst p0_past p0_goings p0_rowSize p0_ways p0_hasField p0_fieldSize p0_faultNow p0_hasTree p0_treeSize p0_weightCount p0_roundCount p0_setCount p0_nodes p0_row) := hD
      refine lv_ldc (v := -2000000005) hx hb hown (hts (.constant RX10 85 (-2000000005)) (by decide +kernel)) dX10_cover_93 ?_
      exact x_iret (w1 := fun (u : Unit) => (wld_X10_cover cI cJ cZ h_p0 ad_p0 p0_places p0_steps p0_pastFirst p0_past p0_goings p0_rowSize p0_ways p0_hasField p0_fieldSize p0_faultNow p0_hasTree p0_treeSize p0_weightCount p0_roundCount p0_setCount p0_nodes p0_row)) hx hb hr hlocks () hw hP hD hS dX10_cover_95
  · have hw := hw.2 c2
    refine lv_ldc (v := -2000000002) hx hb hown (hts (.constant RX10 171 (-2000000002)) (by decide +kernel)) dX10_cover_7 ?_
    exact x_iret (w1 := fun (u : Unit) => (wld_X10_cover cI cJ cZ h_p0 ad_p0 p0_places p0_steps p0_pastFirst p0_past p0_goings p0_rowSize p0_ways p0_hasField p0_fieldSize p0_faultNow p0_hasTree p0_treeSize p0_weightCount p0_roundCount p0_setCount p0_nodes p0_row)) hx hb hr hlocks () hw hP hD hS dX10_cover_9
abbrev wld_X10_bound (cI cJ cZ : ClassId) (h_p0 : Nat) (ad_p0 : Nat → Nat) (p0_places : Int32) (p0_steps : Int32) (p0_pastFirst : Int32) (p0_past : Int32) (p0_goings : Int32) (p0_rowSize : Int32) (p0_ways : Int32) (p0_hasField : Int32) (p0_fieldSize : Int32) (p0_faultNow : Int32) (p0_hasTree : Int32) (p0_treeSize : Int32) (p0_weightCount : Int32) (p0_roundCount : Int32) (p0_setCount : Int32) (p0_nodes : Nat → Int32) : va_W := [(h_p0, .inr (10, [.int p0_places, .int p0_steps, .ref (ad_p0 2), .ref (ad_p0 3), .ref (ad_p0 4), .ref (ad_p0 5), .ref (ad_p0 6), .ref (ad_p0 7), .ref (ad_p0 8), .ref (ad_p0 9), .ref (ad_p0 10), .ref (ad_p0 11), .ref (ad_p0 12), .ref (ad_p0 13), .ref (ad_p0 14), .int p0_pastFirst, .int p0_past, .int p0_goings, .int p0_rowSize, .ref (ad_p0 19), .ref (ad_p0 20), .int p0_ways, .ref (ad_p0 22), .ref (ad_p0 23), .int p0_hasField, .int p0_fieldSize, .ref (ad_p0 26), .ref (ad_p0 27), .ref (ad_p0 28), .ref (ad_p0 29), .ref (ad_p0 30), .ref (ad_p0 31), .ref (ad_p0 32), .int p0_faultNow, .int p0_hasTree, .int p0_treeSize, .ref (ad_p0 36), .ref (ad_p0 37), .ref (ad_p0 38), .ref (ad_p0 39), .ref (ad_p0 40), .ref (ad_p0 41), .ref (ad_p0 42), .int p0_weightCount, .ref (ad_p0 44), .int p0_roundCount, .ref (ad_p0 46), .int p0_setCount, .ref (ad_p0 48), .ref (ad_p0 49)])), ((ad_p0 36), .inl (cI, 32000, .inl p0_nodes))]
abbrev q_X10_bound (dC : Nat → ClassId) (dI : Nat → Nat → Nat) (cI cJ cZ : ClassId) (h_p0 : Nat) (ad_p0 : Nat → Nat) (p0_places : Int32) (p0_steps : Int32) (p0_pastFirst : Int32) (p0_past : Int32) (p0_goings : Int32) (p0_rowSize : Int32) (p0_ways : Int32) (p0_hasField : Int32) (p0_fieldSize : Int32) (p0_faultNow : Int32) (p0_hasTree : Int32) (p0_treeSize : Int32) (p0_weightCount : Int32) (p0_roundCount : Int32) (p0_setCount : Int32) (p0_nodes : Nat → Int32) (post : Int32 → Prop) (A : Nat → Prop) : Array Value → State → Outcome → State → Prop := va_Qi (fun r (u : Unit) => post r ) (fun (u : Unit) t => xPost (dC, dI) A (wld_X10_bound cI cJ cZ h_p0 ad_p0 p0_places p0_steps p0_pastFirst p0_past p0_goings p0_rowSize p0_ways p0_hasField p0_fieldSize p0_faultNow p0_hasTree p0_treeSize p0_weightCount p0_roundCount p0_setCount p0_nodes) t) A
def w_X10_bound_L25b (v1 : Int32) (p0_hasTree : Int32) (p0_places : Int32) (p0_treeSize : Int32) (p0_nodes : Nat → Int32) (post : Int32 → Prop) (K : (Int32) → (Int32) → Prop) (rec : (Int32) → (Int32) → Prop) (v2 : Int32) (v3 : Int32) : Prop :=
    (p0_treeSize ≤ v3 →
      K v2 v3) ∧
    (¬ p0_treeSize ≤ v3 →
      vp_in (((16 : Int32) * v3) + v1) 32000 ∧
      ∀ x8 : Int32, x8 = (p0_nodes (((16 : Int32) * v3) + v1).toNatClampNeg) →
      w_X10_isMore x8 v2 (fun r9 =>
      (r9 = 0 →
        ∀ x12 : Int32, x12 = v3 + (1 : Int32) →
        rec v2 x12) ∧
      (¬ r9 = 0 →
        ∀ x13 : Int32, x13 = v3 + (1 : Int32) →
        rec x8 x13)))
def w_X10_bound_L25 (v1 : Int32) (p0_hasTree : Int32) (p0_places : Int32) (p0_treeSize : Int32) (p0_nodes : Nat → Int32) (post : Int32 → Prop) (K : (Int32) → (Int32) → Prop) : Nat → (Int32) → (Int32) → Prop
  | 0, _, _ => False
  | n + 1, v2, v3 => w_X10_bound_L25b v1 p0_hasTree p0_places p0_treeSize p0_nodes post K (w_X10_bound_L25 v1 p0_hasTree p0_places p0_treeSize p0_nodes post K n) v2 v3
def w_X10_bound (p0_hasTree : Int32) (p0_places : Int32) (p0_treeSize : Int32) (p0_nodes : Nat → Int32) (a1 : Int32) (post : Int32 → Prop) : Prop :=
  w_X10_isPlace p0_places a1 (fun r1 =>
  (¬ r1 = 0 →
    (¬ p0_hasTree = 0 →
      ∃ n : Nat, w_X10_bound_L25 a1 p0_hasTree p0_places p0_treeSize p0_nodes post (fun v15 v16 =>
          w_X10_shown v15 (fun r17 =>
          (post r17))) n (0 : Int32) (0 : Int32)) ∧
    (p0_hasTree = 0 →
      (post (-2000000002 : Int32)))) ∧
  (r1 = 0 →
    (post (-2000000001 : Int32))))
set_option maxHeartbeats 4000000 in
set_option maxRecDepth 100000 in
theorem c_X10_bound_L25 {p : Program} {l : Launch} {e : Env} {s : State} {m : MethodId} {args : Array Value} {below : List Frame} {meth : Method} {c : Code} {dC : Nat → ClassId} {dI : Nat → Nat → Nat} {A : Nat → Prop} {cI cJ cZ : ClassId} {h_p0 : Nat} {ad_p0 : Nat → Nat} {p0_places : Int32} {p0_steps : Int32} {p0_pastFirst : Int32} {p0_past : Int32} {p0_goings : Int32} {p0_rowSize : Int32} {p0_ways : Int32} {p0_hasField : Int32} {p0_fieldSize : Int32} {p0_faultNow : Int32} {p0_hasTree : Int32} {p0_treeSize : Int32} {p0_weightCount : Int32} {p0_roundCount : Int32} {p0_setCount : Int32} {p0_nodes : Nat → Int32} {v1 : Int32}  {post : Int32 → Prop} {K : (Int32) → (Int32) → Prop} (E0 : xEnv p s m args meth c cX10_bound (some .int) 5 RX10 wsX10_bound (dC, dI) cI cJ cZ A) (hk : ∀ (v2 : Int32) (v3 : Int32) (H : Heap) (locs : List Loc) (ls : Array Slot), K v2 v3 → va_P (dC, dI) vwCl (wld_X10_bound cI cJ cZ h_p0 ad_p0 p0_places p0_steps p0_pastFirst p0_past p0_goings p0_rowSize p0_ways p0_hasField p0_fieldSize p0_faultNow p0_hasTree p0_treeSize p0_weightCount p0_roundCount p0_setCount p0_nodes) H → va_D A (wld_X10_bound cI cJ cZ h_p0 ad_p0 p0_places p0_steps p0_pastFirst p0_past p0_goings p0_rowSize p0_ways p0_hasField p0_fieldSize p0_faultNow p0_hasTree p0_treeSize p0_weightCount p0_roundCount p0_setCount p0_nodes) → va_S A s.heap H locs → lv_has ls 5 [(2, .int v2)] → W p l e ({ frames := 1, cells := 0, slots := 0, locals := 21 }) s m args below meth c H locs 0 0 (MQ below (q_X10_bound dC dI cI cJ cZ h_p0 ad_p0 p0_places p0_steps p0_pastFirst p0_past p0_goings p0_rowSize p0_ways p0_hasField p0_fieldSize p0_faultNow p0_hasTree p0_treeSize p0_weightCount p0_roundCount p0_setCount p0_nodes post A) args s 0 0 A) (F0 m 68 ls [])) : ∀ (n : Nat) (v2 : Int32) (v3 : Int32), w_X10_bound_L25 v1 p0_hasTree p0_places p0_treeSize p0_nodes post K n v2 v3 → ∀ (H : Heap) (locs : List Loc) (ls : Array Slot), va_P (dC, dI) vwCl (wld_X10_bound cI cJ cZ h_p0 ad_p0 p0_places p0_steps p0_pastFirst p0_past p0_goings p0_rowSize p0_ways p0_hasField p0_fieldSize p0_faultNow p0_hasTree p0_treeSize p0_weightCount p0_roundCount p0_setCount p0_nodes) H → va_D A (wld_X10_bound cI cJ cZ h_p0 ad_p0 p0_places p0_steps p0_pastFirst p0_past p0_goings p0_rowSize p0_ways p0_hasField p0_fieldSize p0_faultNow p0_hasTree p0_treeSize p0_weightCount p0_roundCount p0_setCount p0_nodes) → va_S A s.heap H locs → lv_has ls 5 [(0, .ref h_p0), (1, .int v1), (2, .int v2), (3, .int v3)] → W p l e ({ frames := 1, cells := 0, slots := 0, locals := 21 }) s m args below meth c H locs 0 0 (MQ below (q_X10_bound dC dI cI cJ cZ h_p0 ad_p0 p0_places p0_steps p0_pastFirst p0_past p0_goings p0_rowSize p0_ways p0_hasField p0_fieldSize p0_faultNow p0_hasTree p0_treeSize p0_weightCount p0_roundCount p0_setCount p0_nodes post A) args s 0 0 A) (F0 m 25 ls []) := by
  obtain ⟨hx, hb, hr, hml, hown, hts, hlocks, hK, hA, n1, n2⟩ := id E0
  have iX10 : ∀ w ∈ u_ws RX10 TX10 50, w ∈ wsX10_bound := fun w h => List.mem_cons_of_mem _ (List.mem_append_right _ h)
  intro n
  induction n with
  | zero => intro v2 v3 hw; exact hw.elim
  | succ n ih =>
    intro v2 v3 hw H locs ls hP hD hS hl
    have hw : w_X10_bound_L25b v1 p0_hasTree p0_places p0_treeSize p0_nodes post K (w_X10_bound_L25 v1 p0_hasTree p0_places p0_treeSize p0_nodes post K n) v2 v3 := hw
    unfold w_X10_bound_L25b at hw
    refine lv_iload_n hx hb dX10_bound_25 rfl (lv_at hl 3 rfl) ?_
    refine lv_aload_n hx hb dX10_bound_26 rfl (lv_at hl 0 rfl) ?_
    refine va_get (D := (dC, dI)) (ci := 10) (v := .int p0_treeSize) (C := RX10) (T := TX10) (N := 50) hx hb hts iX10 hown hK hP 0 rfl rfl 35 (by decide) (hts (.fieldLink RX10 140 "NetHouseModel" "treeSize" "I") (by decide +kernel)) (fun _ h9 => h9) rfl dX10_bound_27 ?_
    refine lv_icmp_ge (tgt := 68) hx hb dX10_bound_30 (by decide) (fun c6 => ?_) (fun c7 => ?_)
    · have hw := hw.1 c6
      exact hk _ _ _ _ _ hw hP hD hS (lv_sub hl [2] rfl)
    · have hw := hw.2 c7
      refine lv_aload_n hx hb dX10_bound_33 rfl (lv_at hl 0 rfl) ?_
      refine va_get (D := (dC, dI)) (ci := 10) (v := .ref (ad_p0 36)) (C := RX10) (T := TX10) (N := 50) hx hb hts iX10 hown hK hP 0 rfl rfl 36 (by decide) (hts (.fieldLink RX10 90 "NetHouseModel" "nodes" "[I") (by decide +kernel)) (fun _ h9 => h9) rfl dX10_bound_34 ?_
      refine lv_bipush (v := 16) hx hb dX10_bound_37 (by decide) ?_
      refine lv_iload_n hx hb dX10_bound_39 rfl (lv_at hl 3 rfl) ?_
      refine lv_imul hx hb dX10_bound_40 ?_
      refine lv_iload_n hx hb dX10_bound_41 rfl (lv_at hl 1 rfl) ?_
      refine lv_iadd hx hb dX10_bound_42 ?_
      refine va_iald hx hb hK hP 1 0 rfl rfl hw.1 dX10_bound_43 ?_
      have hw := hw.2
      refine lv_topi (fun x8 ex8 => ?_)
      have hw := hw x8 ex8
      refine lv_istore (lv' := [(4, .int x8), (0, .ref h_p0), (1, .int v1), (2, .int v2), (3, .int v3)]) hx hb dX10_bound_44 hl (by decide) rfl (fun ls hl => ?_)
      refine lv_iload hx hb dX10_bound_46 (lv_at hl 0 rfl) ?_
      refine lv_iload_n hx hb dX10_bound_48 rfl (lv_at hl 3 rfl) ?_
      obtain ⟨hPc, hDc⟩ := x_sub (wc := (wld_X10_isMore cI cJ cZ )) hP hD [] (n := 2) rfl rfl (by decide +kernel)
      refine x_calli (ws' := fun (u : Unit) => (wld_X10_bound cI cJ cZ h_p0 ad_p0 p0_places p0_steps p0_pastFirst p0_past p0_goings p0_rowSize p0_ways p0_hasField p0_fieldSize p0_faultNow p0_hasTree p0_treeSize p0_weightCount p0_roundCount p0_setCount p0_nodes)) hP hD hS hA [] [0, 1] [0, 1] (n := 2) (k := 0) rfl (fun _ => rfl) rfl (by decide +kernel) (fun _ => rfl) (va_runS (As := [.int x8, .int v2]) (rest := []) ⟨hx, hb, hml, hown, hts⟩ (c_X10_isMore (l := l) (dC := dC) (dI := dI) (cI := cI) (cJ := cJ) (cZ := cZ) (sz := H.size) hw) (va_cwS 2 hts gX10_bound_X10_isMore rfl rfl rfl (by decide +kernel) ⟨Nat.le_of_ble_eq_true rfl, Nat.le_of_ble_eq_true rfl⟩) ⟨xPre_blind, xPre_at hK hPc hDc n1 n2⟩ rfl rfl hl.1 rfl (lv_room (Nat.le_of_ble_eq_true rfl)) dX10_bound_49 ⟨Nat.zero_le _, Nat.zero_le _⟩) (fun r9 u H locs hw hP hD hS => ?_)
      try dsimp only at hw
      have hP : va_P (dC, dI) vwCl (wld_X10_bound cI cJ cZ h_p0 ad_p0 p0_places p0_steps p0_pastFirst p0_past p0_goings p0_rowSize p0_ways p0_hasField p0_fieldSize p0_faultNow p0_hasTree p0_treeSize p0_weightCount p0_roundCount p0_setCount p0_nodes) H := hP
      have hD : va_D A (wld_X10_bound cI cJ cZ h_p0 ad_p0 p0_places p0_steps p0_pastFirst p0_past p0_goings p0_rowSize p0_ways p0_hasField p0_fieldSize p0_faultNow p0_hasTree p0_treeSize p0_weightCount p0_roundCount p0_setCount p0_nodes) := hD
      refine lv_if_eq (tgt := 60) hx hb dX10_bound_52 (by decide) (fun c10 => ?_) (fun c11 => ?_)
      · have hw := hw.1 c10
        refine lv_iload_n hx hb dX10_bound_60 rfl (lv_at hl 3 rfl) ?_
        refine lv_istore_n (lv' := [(2, .int v2), (4, .int x8), (0, .ref h_p0), (1, .int v1), (3, .int v3)]) hx hb dX10_bound_61 rfl hl (by decide) rfl (fun ls hl => ?_)
        obtain ⟨x12, ex12⟩ : ∃ y : Int32, y = v3 + (1 : Int32) := ⟨_, rfl⟩
        have hw := hw x12 ex12
        refine lv_iinc (v := x12) (lv' := [(3, .int x12), (2, .int v2), (4, .int x8), (0, .ref h_p0), (1, .int v1)]) hx hb dX10_bound_62 hl (k := 4) rfl (by rw [ex12]; rfl) (by decide) rfl (fun ls hl => ?_)
        refine lv_goto (tgt := 25) hx hb dX10_bound_65 (by decide) ?_
        exact ih _ _ hw _ _ _ hP hD hS (lv_sub hl [3, 4, 1, 0] rfl)
      · have hw := hw.2 c11
        refine lv_iload hx hb dX10_bound_55 (lv_at hl 0 rfl) ?_
        refine lv_goto (tgt := 61) hx hb dX10_bound_57 (by decide) ?_
        refine lv_istore_n (lv' := [(2, .int x8), (4, .int x8), (0, .ref h_p0), (1, .int v1), (3, .int v3)]) hx hb dX10_bound_61 rfl hl (by decide) rfl (fun ls hl => ?_)
        obtain ⟨x13, ex13⟩ : ∃ y : Int32, y = v3 + (1 : Int32) := ⟨_, rfl⟩
        have hw := hw x13 ex13
        refine lv_iinc (v := x13) (lv' := [(3, .int x13), (2, .int x8), (4, .int x8), (0, .ref h_p0), (1, .int v1)]) hx hb dX10_bound_62 hl (k := 4) rfl (by rw [ex13]; rfl) (by decide) rfl (fun ls hl => ?_)
        refine lv_goto (tgt := 25) hx hb dX10_bound_65 (by decide) ?_
        exact ih _ _ hw _ _ _ hP hD hS (lv_sub hl [3, 4, 1, 0] rfl)
set_option maxHeartbeats 4000000 in
set_option maxRecDepth 100000 in
theorem c_X10_bound {l : Launch} {dC : Nat → ClassId} {dI : Nat → Nat → Nat} {sz : Nat} {cI cJ cZ : ClassId} {h_p0 : Nat} {ad_p0 : Nat → Nat} {p0_places : Int32} {p0_steps : Int32} {p0_pastFirst : Int32} {p0_past : Int32} {p0_goings : Int32} {p0_rowSize : Int32} {p0_ways : Int32} {p0_hasField : Int32} {p0_fieldSize : Int32} {p0_faultNow : Int32} {p0_hasTree : Int32} {p0_treeSize : Int32} {p0_weightCount : Int32} {p0_roundCount : Int32} {p0_setCount : Int32} {p0_nodes : Nat → Int32} {a1 : Int32} {post : Int32 → Prop} (hw : w_X10_bound p0_hasTree p0_places p0_treeSize p0_nodes a1 post) : Met l yX10_bound wsX10_bound ({ frames := 1, cells := 0, slots := 0, locals := 21 }) (va_Pc [.ref h_p0, .int a1] (xPre (dC, dI) cI cJ cZ (wld_X10_bound cI cJ cZ h_p0 ad_p0 p0_places p0_steps p0_pastFirst p0_past p0_goings p0_rowSize p0_ways p0_hasField p0_fieldSize p0_faultNow p0_hasTree p0_treeSize p0_weightCount p0_roundCount p0_setCount p0_nodes) sz)) (q_X10_bound dC dI cI cJ cZ h_p0 ad_p0 p0_places p0_steps p0_pastFirst p0_past p0_goings p0_rowSize p0_ways p0_hasField p0_fieldSize p0_faultNow p0_hasTree p0_treeSize p0_weightCount p0_roundCount p0_setCount p0_nodes post (va_A (wld_X10_bound cI cJ cZ h_p0 ad_p0 p0_places p0_steps p0_pastFirst p0_past p0_goings p0_rowSize p0_ways p0_hasField p0_fieldSize p0_faultNow p0_hasTree p0_treeSize p0_weightCount p0_roundCount p0_setCount p0_nodes) sz)) 0 0 (va_A (wld_X10_bound cI cJ cZ h_p0 ad_p0 p0_places p0_steps p0_pastFirst p0_past p0_goings p0_rowSize p0_ways p0_hasField p0_fieldSize p0_faultNow p0_hasTree p0_treeSize p0_weightCount p0_roundCount p0_setCount p0_nodes) sz) := by
  refine x_met (cc := cX10_bound) (maxL := 5) (ret := (some .int)) (own := RX10) (Qc := fun A => (q_X10_bound dC dI cI cJ cZ h_p0 ad_p0 p0_places p0_steps p0_pastFirst p0_past p0_goings p0_rowSize p0_ways p0_hasField p0_fieldSize p0_faultNow p0_hasTree p0_treeSize p0_weightCount p0_roundCount p0_setCount p0_nodes post A)) (by decide) rfl rfl (Nat.le_of_ble_eq_true rfl) ?_
  intro p e s m args below meth c A ls E0 hP hD hS hl
  obtain ⟨hx, hb, hr, hml, hown, hts, hlocks, hK, hA, n1, n2⟩ := id E0
  have iX10 : ∀ w ∈ u_ws RX10 TX10 50, w ∈ wsX10_bound := fun w h => List.mem_cons_of_mem _ (List.mem_append_right _ h)
  have hS0 := hS
  have hl : lv_has ls 5 [(0, .ref h_p0), (1, .int a1)] := hl
  unfold w_X10_bound at hw
  obtain ⟨H, hH⟩ : ∃ H, H = s.heap := ⟨_, rfl⟩
  have hS : va_S A s.heap H [] := by rw [hH]; exact hS
  have hP : va_P (dC, dI) vwCl (wld_X10_bound cI cJ cZ h_p0 ad_p0 p0_places p0_steps p0_pastFirst p0_past p0_goings p0_rowSize p0_ways p0_hasField p0_fieldSize p0_faultNow p0_hasTree p0_treeSize p0_weightCount p0_roundCount p0_setCount p0_nodes) H := by rw [hH]; exact hP
  suffices hG : W p l e ({ frames := 1, cells := 0, slots := 0, locals := 21 }) s m args below meth c H [] 0 0 (MQ below (q_X10_bound dC dI cI cJ cZ h_p0 ad_p0 p0_places p0_steps p0_pastFirst p0_past p0_goings p0_rowSize p0_ways p0_hasField p0_fieldSize p0_faultNow p0_hasTree p0_treeSize p0_weightCount p0_roundCount p0_setCount p0_nodes post A) args s 0 0 A) (F0 m 0 ls []) by rw [hH] at hG; exact hG
  clear hH
  refine lv_aload_n hx hb dX10_bound_0 rfl (lv_at hl 0 rfl) ?_
  refine lv_iload_n hx hb dX10_bound_1 rfl (lv_at hl 1 rfl) ?_
  obtain ⟨hPc, hDc⟩ := x_sub (wc := (wld_X10_isPlace cI cJ cZ h_p0 ad_p0 p0_places p0_steps p0_pastFirst p0_past p0_goings p0_rowSize p0_ways p0_hasField p0_fieldSize p0_faultNow p0_hasTree p0_treeSize p0_weightCount p0_roundCount p0_setCount)) hP hD [0] (n := 2) rfl rfl (by decide +kernel)
  refine x_calli (ws' := fun (u : Unit) => (wld_X10_bound cI cJ cZ h_p0 ad_p0 p0_places p0_steps p0_pastFirst p0_past p0_goings p0_rowSize p0_ways p0_hasField p0_fieldSize p0_faultNow p0_hasTree p0_treeSize p0_weightCount p0_roundCount p0_setCount p0_nodes)) hP hD hS hA [0] [1] [1, 0] (n := 2) (k := 1) rfl (fun _ => rfl) rfl (by decide +kernel) (fun _ => rfl) (va_runV (As := [.int a1]) (rest := []) ⟨hx, hb, hml, hown, hts⟩ (c_X10_isPlace (l := l) (dC := dC) (dI := dI) (cI := cI) (cJ := cJ) (cZ := cZ) (sz := H.size) (h_p0 := h_p0) (ad_p0 := ad_p0) (p0_places := p0_places) (p0_steps := p0_steps) (p0_pastFirst := p0_pastFirst) (p0_past := p0_past) (p0_goings := p0_goings) (p0_rowSize := p0_rowSize) (p0_ways := p0_ways) (p0_hasField := p0_hasField) (p0_fieldSize := p0_fieldSize) (p0_faultNow := p0_faultNow) (p0_hasTree := p0_hasTree) (p0_treeSize := p0_treeSize) (p0_weightCount := p0_weightCount) (p0_roundCount := p0_roundCount) (p0_setCount := p0_setCount) hw) (cwV 1 hts gX10_bound_X10_isPlace rfl rfl rfl (by decide +kernel) ⟨Nat.le_of_ble_eq_true rfl, Nat.le_of_ble_eq_true rfl⟩) ⟨xPre_blind, va_recv hK hP (ci := 10) (q0 := 0) rfl rfl, xPre_at hK hPc hDc n1 n2⟩ rfl rfl hl.1 rfl (lv_room (Nat.le_of_ble_eq_true rfl)) dX10_bound_2 ⟨Nat.zero_le _, Nat.zero_le _⟩) (fun r1 u H locs hw hP hD hS => ?_)
  try dsimp only at hw
  have hP : va_P (dC, dI) vwCl (wld_X10_bound cI cJ cZ h_p0 ad_p0 p0_places p0_steps p0_pastFirst p0_past p0_goings p0_rowSize p0_ways p0_hasField p0_fieldSize p0_faultNow p0_hasTree p0_treeSize p0_weightCount p0_roundCount p0_setCount p0_nodes) H := hP
  have hD : va_D A (wld_X10_bound cI cJ cZ h_p0 ad_p0 p0_places p0_steps p0_pastFirst p0_past p0_goings p0_rowSize p0_ways p0_hasField p0_fieldSize p0_faultNow p0_hasTree p0_treeSize p0_weightCount p0_roundCount p0_setCount p0_nodes) := hD
  refine lv_if_ne (tgt := 11) hx hb dX10_bound_5 (by decide) (fun c2 => ?_) (fun c3 => ?_)
  · have hw := hw.1 c2
    refine lv_aload_n hx hb dX10_bound_11 rfl (lv_at hl 0 rfl) ?_
    refine va_get (D := (dC, dI)) (ci := 10) (v := .int p0_hasTree) (C := RX10) (T := TX10) (N := 50) hx hb hts iX10 hown hK hP 0 rfl rfl 34 (by decide) (hts (.fieldLink RX10 137 "NetHouseModel" "hasTree" "Z") (by decide +kernel)) (fun _ h9 => h9) rfl dX10_bound_12 ?_
    refine lv_if_ne (tgt := 21) hx hb dX10_bound_15 (by decide) (fun c4 => ?_) (fun c5 => ?_)
    · have hw := hw.1 c4
      refine lv_iconst (v := 0) hx hb dX10_bound_21 (by decide) ?_
      refine lv_istore_n (lv' := [(2, .int (0 : Int32)), (0, .ref h_p0), (1, .int a1)]) hx hb dX10_bound_22 rfl hl (by decide) rfl (fun ls hl => ?_)
      refine lv_iconst (v := 0) hx hb dX10_bound_23 (by decide) ?_
      refine lv_istore_n (lv' := [(3, .int (0 : Int32)), (2, .int (0 : Int32)), (0, .ref h_p0), (1, .int a1)]) hx hb dX10_bound_24 rfl hl (by decide) rfl (fun ls hl => ?_)
      obtain ⟨n14, hw⟩ := hw
      refine c_X10_bound_L25 (l := l)  E0 ?_ n14 _ _ hw _ _ _ hP hD hS (lv_sub hl [2, 3, 1, 0] rfl)
      · intro v15 v16 H locs ls hw hP hD hS hl
        have hP : va_P (dC, dI) vwCl (wld_X10_bound cI cJ cZ h_p0 ad_p0 p0_places p0_steps p0_pastFirst p0_past p0_goings p0_rowSize p0_ways p0_hasField p0_fieldSize p0_faultNow p0_hasTree p0_treeSize p0_weightCount p0_roundCount p0_setCount p0_nodes) H := hP
        have hD : va_D A (wld_X10_bound cI cJ cZ h_p0 ad_p0 p0_places p0_steps p0_pastFirst p0_past p0_goings p0_rowSize p0_ways p0_hasField p0_fieldSize p0_faultNow p0_hasTree p0_treeSize p0_weightCount p0_roundCount p0_setCount p0_nodes) := hD
        refine lv_iload_n hx hb dX10_bound_68 rfl (lv_at hl 0 rfl) ?_
        obtain ⟨hPc, hDc⟩ := x_sub (wc := (wld_X10_shown cI cJ cZ )) hP hD [] (n := 2) rfl rfl (by decide +kernel)
        refine x_calli (ws' := fun (u : Unit) => (wld_X10_bound cI cJ cZ h_p0 ad_p0 p0_places p0_steps p0_pastFirst p0_past p0_goings p0_rowSize p0_ways p0_hasField p0_fieldSize p0_faultNow p0_hasTree p0_treeSize p0_weightCount p0_roundCount p0_setCount p0_nodes)) hP hD hS hA [] [0, 1] [0, 1] (n := 2) (k := 0) rfl (fun _ => rfl) rfl (by decide +kernel) (fun _ => rfl) (va_runS (As := [.int v15]) (rest := []) ⟨hx, hb, hml, hown, hts⟩ (c_X10_shown (l := l) (dC := dC) (dI := dI) (cI := cI) (cJ := cJ) (cZ := cZ) (sz := H.size) hw) (va_cwS 1 hts gX10_bound_X10_shown rfl rfl rfl (by decide +kernel) ⟨Nat.le_of_ble_eq_true rfl, Nat.le_of_ble_eq_true rfl⟩) ⟨xPre_blind, xPre_at hK hPc hDc n1 n2⟩ rfl rfl hl.1 rfl (lv_room (Nat.le_of_ble_eq_true rfl)) dX10_bound_69 ⟨Nat.zero_le _, Nat.zero_le _⟩) (fun r17 u H locs hw hP hD hS => ?_)
        try dsimp only at hw
        have hP : va_P (dC, dI) vwCl (wld_X10_bound cI cJ cZ h_p0 ad_p0 p0_places p0_steps p0_pastFirst p0_past p0_goings p0_rowSize p0_ways p0_hasField p0_fieldSize p0_faultNow p0_hasTree p0_treeSize p0_weightCount p0_roundCount p0_setCount p0_nodes) H := hP
        have hD : va_D A (wld_X10_bound cI cJ cZ h_p0 ad_p0 p0_places p0_steps p0_pastFirst p0_past p0_goings p0_rowSize p0_ways p0_hasField p0_fieldSize p0_faultNow p0_hasTree p0_treeSize p0_weightCount p0_roundCount p0_setCount p0_nodes) := hD
        exact x_iret (w1 := fun (u : Unit) => (wld_X10_bound cI cJ cZ h_p0 ad_p0 p0_places p0_steps p0_pastFirst p0_past p0_goings p0_rowSize p0_ways p0_hasField p0_fieldSize p0_faultNow p0_hasTree p0_treeSize p0_weightCount p0_roundCount p0_setCount p0_nodes)) hx hb hr hlocks () hw hP hD hS dX10_bound_72
    · have hw := hw.2 c5
      refine lv_ldc (v := -2000000002) hx hb hown (hts (.constant RX10 171 (-2000000002)) (by decide +kernel)) dX10_bound_18 ?_
      exact x_iret (w1 := fun (u : Unit) => (wld_X10_bound cI cJ cZ h_p0 ad_p0 p0_places p0_steps p0_pastFirst p0_past p0_goings p0_rowSize p0_ways p0_hasField p0_fieldSize p0_faultNow p0_hasTree p0_treeSize p0_weightCount p0_roundCount p0_setCount p0_nodes)) hx hb hr hlocks () hw hP hD hS dX10_bound_20
  · have hw := hw.2 c3
    refine lv_ldc (v := -2000000001) hx hb hown (hts (.constant RX10 159 (-2000000001)) (by decide +kernel)) dX10_bound_8 ?_
    exact x_iret (w1 := fun (u : Unit) => (wld_X10_bound cI cJ cZ h_p0 ad_p0 p0_places p0_steps p0_pastFirst p0_past p0_goings p0_rowSize p0_ways p0_hasField p0_fieldSize p0_faultNow p0_hasTree p0_treeSize p0_weightCount p0_roundCount p0_setCount p0_nodes)) hx hb hr hlocks () hw hP hD hS dX10_bound_10
abbrev wld_X10_leastEndless (cI cJ cZ : ClassId) (h_p0 : Nat) (ad_p0 : Nat → Nat) (p0_places : Int32) (p0_steps : Int32) (p0_pastFirst : Int32) (p0_past : Int32) (p0_goings : Int32) (p0_rowSize : Int32) (p0_ways : Int32) (p0_hasField : Int32) (p0_fieldSize : Int32) (p0_faultNow : Int32) (p0_hasTree : Int32) (p0_treeSize : Int32) (p0_weightCount : Int32) (p0_roundCount : Int32) (p0_setCount : Int32) (p0_nodes : Nat → Int32) : va_W := [(h_p0, .inr (10, [.int p0_places, .int p0_steps, .ref (ad_p0 2), .ref (ad_p0 3), .ref (ad_p0 4), .ref (ad_p0 5), .ref (ad_p0 6), .ref (ad_p0 7), .ref (ad_p0 8), .ref (ad_p0 9), .ref (ad_p0 10), .ref (ad_p0 11), .ref (ad_p0 12), .ref (ad_p0 13), .ref (ad_p0 14), .int p0_pastFirst, .int p0_past, .int p0_goings, .int p0_rowSize, .ref (ad_p0 19), .ref (ad_p0 20), .int p0_ways, .ref (ad_p0 22), .ref (ad_p0 23), .int p0_hasField, .int p0_fieldSize, .ref (ad_p0 26), .ref (ad_p0 27), .ref (ad_p0 28), .ref (ad_p0 29), .ref (ad_p0 30), .ref (ad_p0 31), .ref (ad_p0 32), .int p0_faultNow, .int p0_hasTree, .int p0_treeSize, .ref (ad_p0 36), .ref (ad_p0 37), .ref (ad_p0 38), .ref (ad_p0 39), .ref (ad_p0 40), .ref (ad_p0 41), .ref (ad_p0 42), .int p0_weightCount, .ref (ad_p0 44), .int p0_roundCount, .ref (ad_p0 46), .int p0_setCount, .ref (ad_p0 48), .ref (ad_p0 49)])), ((ad_p0 36), .inl (cI, 32000, .inl p0_nodes))]
abbrev q_X10_leastEndless (dC : Nat → ClassId) (dI : Nat → Nat → Nat) (cI cJ cZ : ClassId) (h_p0 : Nat) (ad_p0 : Nat → Nat) (p0_places : Int32) (p0_steps : Int32) (p0_pastFirst : Int32) (p0_past : Int32) (p0_goings : Int32) (p0_rowSize : Int32) (p0_ways : Int32) (p0_hasField : Int32) (p0_fieldSize : Int32) (p0_faultNow : Int32) (p0_hasTree : Int32) (p0_treeSize : Int32) (p0_weightCount : Int32) (p0_roundCount : Int32) (p0_setCount : Int32) (p0_nodes : Nat → Int32) (post : Int32 → Prop) (A : Nat → Prop) : Array Value → State → Outcome → State → Prop := va_Qi (fun r (u : Unit) => post r ) (fun (u : Unit) t => xPost (dC, dI) A (wld_X10_leastEndless cI cJ cZ h_p0 ad_p0 p0_places p0_steps p0_pastFirst p0_past p0_goings p0_rowSize p0_ways p0_hasField p0_fieldSize p0_faultNow p0_hasTree p0_treeSize p0_weightCount p0_roundCount p0_setCount p0_nodes) t) A
def w_X10_leastEndless_L12b (v1 : Int32) (p0_places : Int32) (p0_treeSize : Int32) (p0_nodes : Nat → Int32) (post : Int32 → Prop) (K : (Int32) → Prop) (rec : (Int32) → Prop) (v2 : Int32) : Prop :=
    (p0_places ≤ v2 →
      K v2) ∧
    (¬ p0_places ≤ v2 →
      vp_in (((16 : Int32) * v1) + v2) 32000 ∧
      (0 ≤ (p0_nodes (((16 : Int32) * v1) + v2).toNatClampNeg) →
        ∀ x7 : Int32, x7 = v2 + (1 : Int32) →
        rec x7) ∧
      (¬ 0 ≤ (p0_nodes (((16 : Int32) * v1) + v2).toNatClampNeg) →
        (post v1)))
def w_X10_leastEndless_L12 (v1 : Int32) (p0_places : Int32) (p0_treeSize : Int32) (p0_nodes : Nat → Int32) (post : Int32 → Prop) (K : (Int32) → Prop) : Nat → (Int32) → Prop
  | 0, _ => False
  | n + 1, v2 => w_X10_leastEndless_L12b v1 p0_places p0_treeSize p0_nodes post K (w_X10_leastEndless_L12 v1 p0_places p0_treeSize p0_nodes post K n) v2
def w_X10_leastEndless_L2b (p0_places : Int32) (p0_treeSize : Int32) (p0_nodes : Nat → Int32) (post : Int32 → Prop) (K : (Int32) → Prop) (rec : (Int32) → Prop) (v1 : Int32) : Prop :=
    (p0_treeSize ≤ v1 →
      K v1) ∧
    (¬ p0_treeSize ≤ v1 →
      ∃ n : Nat, w_X10_leastEndless_L12 v1 p0_places p0_treeSize p0_nodes post (fun v9 =>
          ∀ x10 : Int32, x10 = v1 + (1 : Int32) →
          rec x10) n (0 : Int32))
def w_X10_leastEndless_L2 (p0_places : Int32) (p0_treeSize : Int32) (p0_nodes : Nat → Int32) (post : Int32 → Prop) (K : (Int32) → Prop) : Nat → (Int32) → Prop
  | 0, _ => False
  | n + 1, v1 => w_X10_leastEndless_L2b p0_places p0_treeSize p0_nodes post K (w_X10_leastEndless_L2 p0_places p0_treeSize p0_nodes post K n) v1
def w_X10_leastEndless (p0_places : Int32) (p0_treeSize : Int32) (p0_nodes : Nat → Int32) (post : Int32 → Prop) : Prop :=
  ∃ n : Nat, w_X10_leastEndless_L2 p0_places p0_treeSize p0_nodes post (fun v12 =>
      (post (-2000000005 : Int32))) n (0 : Int32)
set_option maxHeartbeats 4000000 in
set_option maxRecDepth 100000 in
theorem c_X10_leastEndless_L12 {p : Program} {l : Launch} {e : Env} {s : State} {m : MethodId} {args : Array Value} {below : List Frame} {meth : Method} {c : Code} {dC : Nat → ClassId} {dI : Nat → Nat → Nat} {A : Nat → Prop} {cI cJ cZ : ClassId} {h_p0 : Nat} {ad_p0 : Nat → Nat} {p0_places : Int32} {p0_steps : Int32} {p0_pastFirst : Int32} {p0_past : Int32} {p0_goings : Int32} {p0_rowSize : Int32} {p0_ways : Int32} {p0_hasField : Int32} {p0_fieldSize : Int32} {p0_faultNow : Int32} {p0_hasTree : Int32} {p0_treeSize : Int32} {p0_weightCount : Int32} {p0_roundCount : Int32} {p0_setCount : Int32} {p0_nodes : Nat → Int32} {v1 : Int32}  {post : Int32 → Prop} {K : (Int32) → Prop} (E0 : xEnv p s m args meth c cX10_leastEndless (some .int) 3 RX10 wsX10_leastEndless (dC, dI) cI cJ cZ A) (hk : ∀ (v2 : Int32) (H : Heap) (locs : List Loc) (ls : Array Slot), K v2 → va_P (dC, dI) vwCl (wld_X10_leastEndless cI cJ cZ h_p0 ad_p0 p0_places p0_steps p0_pastFirst p0_past p0_goings p0_rowSize p0_ways p0_hasField p0_fieldSize p0_faultNow p0_hasTree p0_treeSize p0_weightCount p0_roundCount p0_setCount p0_nodes) H → va_D A (wld_X10_leastEndless cI cJ cZ h_p0 ad_p0 p0_places p0_steps p0_pastFirst p0_past p0_goings p0_rowSize p0_ways p0_hasField p0_fieldSize p0_faultNow p0_hasTree p0_treeSize p0_weightCount p0_roundCount p0_setCount p0_nodes) → va_S A s.heap H locs → lv_has ls 3 [(0, .ref h_p0), (1, .int v1)] → W p l e ({ frames := 0, cells := 0, slots := 0, locals := 0 }) s m args below meth c H locs 0 0 (MQ below (q_X10_leastEndless dC dI cI cJ cZ h_p0 ad_p0 p0_places p0_steps p0_pastFirst p0_past p0_goings p0_rowSize p0_ways p0_hasField p0_fieldSize p0_faultNow p0_hasTree p0_treeSize p0_weightCount p0_roundCount p0_setCount p0_nodes post A) args s 0 0 A) (F0 m 42 ls [])) : ∀ (n : Nat) (v2 : Int32), w_X10_leastEndless_L12 v1 p0_places p0_treeSize p0_nodes post K n v2 → ∀ (H : Heap) (locs : List Loc) (ls : Array Slot), va_P (dC, dI) vwCl (wld_X10_leastEndless cI cJ cZ h_p0 ad_p0 p0_places p0_steps p0_pastFirst p0_past p0_goings p0_rowSize p0_ways p0_hasField p0_fieldSize p0_faultNow p0_hasTree p0_treeSize p0_weightCount p0_roundCount p0_setCount p0_nodes) H → va_D A (wld_X10_leastEndless cI cJ cZ h_p0 ad_p0 p0_places p0_steps p0_pastFirst p0_past p0_goings p0_rowSize p0_ways p0_hasField p0_fieldSize p0_faultNow p0_hasTree p0_treeSize p0_weightCount p0_roundCount p0_setCount p0_nodes) → va_S A s.heap H locs → lv_has ls 3 [(0, .ref h_p0), (1, .int v1), (2, .int v2)] → W p l e ({ frames := 0, cells := 0, slots := 0, locals := 0 }) s m args below meth c H locs 0 0 (MQ below (q_X10_leastEndless dC dI cI cJ cZ h_p0 ad_p0 p0_places p0_steps p0_pastFirst p0_past p0_goings p0_rowSize p0_ways p0_hasField p0_fieldSize p0_faultNow p0_hasTree p0_treeSize p0_weightCount p0_roundCount p0_setCount p0_nodes post A) args s 0 0 A) (F0 m 12 ls []) := by
  obtain ⟨hx, hb, hr, hml, hown, hts, hlocks, hK, hA, n1, n2⟩ := id E0
  have iX10 : ∀ w ∈ u_ws RX10 TX10 50, w ∈ wsX10_leastEndless := fun w h => List.mem_cons_of_mem _ (List.mem_append_right _ h)
  intro n
  induction n with
  | zero => intro v2 hw; exact hw.elim
  | succ n ih =>
    intro v2 hw H locs ls hP hD hS hl
    have hw : w_X10_leastEndless_L12b v1 p0_places p0_treeSize p0_nodes post K (w_X10_leastEndless_L12 v1 p0_places p0_treeSize p0_nodes post K n) v2 := hw
    unfold w_X10_leastEndless_L12b at hw
    refine lv_iload_n hx hb dX10_leastEndless_12 rfl (lv_at hl 2 rfl) ?_
    refine lv_aload_n hx hb dX10_leastEndless_13 rfl (lv_at hl 0 rfl) ?_
    refine va_get (D := (dC, dI)) (ci := 10) (v := .int p0_places) (C := RX10) (T := TX10) (N := 50) hx hb hts iX10 hown hK hP 0 rfl rfl 0 (by decide) (hts (.fieldLink RX10 127 "NetHouseModel" "places" "I") (by decide +kernel)) (fun _ h9 => h9) rfl dX10_leastEndless_14 ?_
    refine lv_icmp_ge (tgt := 42) hx hb dX10_leastEndless_17 (by decide) (fun c3 => ?_) (fun c4 => ?_)
    · have hw := hw.1 c3
      exact hk _ _ _ _ hw hP hD hS (lv_sub hl [0, 1] rfl)
    · have hw := hw.2 c4
      refine lv_aload_n hx hb dX10_leastEndless_20 rfl (lv_at hl 0 rfl) ?_
      refine va_get (D := (dC, dI)) (ci := 10) (v := .ref (ad_p0 36)) (C := RX10) (T := TX10) (N := 50) hx hb hts iX10 hown hK hP 0 rfl rfl 36 (by decide) (hts (.fieldLink RX10 90 "NetHouseModel" "nodes" "[I") (by decide +kernel)) (fun _ h9 => h9) rfl dX10_leastEndless_21 ?_
      refine lv_bipush (v := 16) hx hb dX10_leastEndless_24 (by decide) ?_
      refine lv_iload_n hx hb dX10_leastEndless_26 rfl (lv_at hl 1 rfl) ?_
      refine lv_imul hx hb dX10_leastEndless_27 ?_
      refine lv_iload_n hx hb dX10_leastEndless_28 rfl (lv_at hl 2 rfl) ?_
      refine lv_iadd hx hb dX10_leastEndless_29 ?_
      refine va_iald hx hb hK hP 1 0 rfl rfl hw.1 dX10_leastEndless_30 ?_
      have hw := hw.2
      refine lv_if_ge (tgt := 36) hx hb dX10_leastEndless_31 (by decide) (fun c5 => ?_) (fun c6 => ?_)
      · have hw := hw.1 c5
        obtain ⟨x7, ex7⟩ : ∃ y : Int32, y = v2 + (1 : Int32) := ⟨_, rfl⟩
        have hw := hw x7 ex7
        refine lv_iinc (v := x7) (lv' := [(2, .int x7), (0, .ref h_p0), (1, .int v1)]) hx hb dX10_leastEndless_36 hl (k := 2) rfl (by rw [ex7]; rfl) (by decide) rfl (fun ls hl => ?_)
        refine lv_goto (tgt := 12) hx hb dX10_leastEndless_39 (by decide) ?_
        exact ih _ hw _ _ _ hP hD hS (lv_sub hl [1, 2, 0] rfl)
      · have hw := hw.2 c6
        refine lv_iload_n hx hb dX10_leastEndless_34 rfl (lv_at hl 1 rfl) ?_
        exact x_iret (w1 := fun (u : Unit) => (wld_X10_leastEndless cI cJ cZ h_p0 ad_p0 p0_places p0_steps p0_pastFirst p0_past p0_goings p0_rowSize p0_ways p0_hasField p0_fieldSize p0_faultNow p0_hasTree p0_treeSize p0_weightCount p0_roundCount p0_setCount p0_nodes)) hx hb hr hlocks () hw hP hD hS dX10_leastEndless_35
set_option maxHeartbeats 4000000 in
set_option maxRecDepth 100000 in
theorem c_X10_leastEndless_L2 {p : Program} {l : Launch} {e : Env} {s : State} {m : MethodId} {args : Array Value} {below : List Frame} {meth : Method} {c : Code} {dC : Nat → ClassId} {dI : Nat → Nat → Nat} {A : Nat → Prop} {cI cJ cZ : ClassId} {h_p0 : Nat} {ad_p0 : Nat → Nat} {p0_places : Int32} {p0_steps : Int32} {p0_pastFirst : Int32} {p0_past : Int32} {p0_goings : Int32} {p0_rowSize : Int32} {p0_ways : Int32} {p0_hasField : Int32} {p0_fieldSize : Int32} {p0_faultNow : Int32} {p0_hasTree : Int32} {p0_treeSize : Int32} {p0_weightCount : Int32} {p0_roundCount : Int32} {p0_setCount : Int32} {p0_nodes : Nat → Int32}  {post : Int32 → Prop} {K : (Int32) → Prop} (E0 : xEnv p s m args meth c cX10_leastEndless (some .int) 3 RX10 wsX10_leastEndless (dC, dI) cI cJ cZ A) (hk : ∀ (v1 : Int32) (H : Heap) (locs : List Loc) (ls : Array Slot), K v1 → va_P (dC, dI) vwCl (wld_X10_leastEndless cI cJ cZ h_p0 ad_p0 p0_places p0_steps p0_pastFirst p0_past p0_goings p0_rowSize p0_ways p0_hasField p0_fieldSize p0_faultNow p0_hasTree p0_treeSize p0_weightCount p0_roundCount p0_setCount p0_nodes) H → va_D A (wld_X10_leastEndless cI cJ cZ h_p0 ad_p0 p0_places p0_steps p0_pastFirst p0_past p0_goings p0_rowSize p0_ways p0_hasField p0_fieldSize p0_faultNow p0_hasTree p0_treeSize p0_weightCount p0_roundCount p0_setCount p0_nodes) → va_S A s.heap H locs → lv_has ls 3 [] → W p l e ({ frames := 0, cells := 0, slots := 0, locals := 0 }) s m args below meth c H locs 0 0 (MQ below (q_X10_leastEndless dC dI cI cJ cZ h_p0 ad_p0 p0_places p0_steps p0_pastFirst p0_past p0_goings p0_rowSize p0_ways p0_hasField p0_fieldSize p0_faultNow p0_hasTree p0_treeSize p0_weightCount p0_roundCount p0_setCount p0_nodes post A) args s 0 0 A) (F0 m 48 ls [])) : ∀ (n : Nat) (v1 : Int32), w_X10_leastEndless_L2 p0_places p0_treeSize p0_nodes post K n v1 → ∀ (H : Heap) (locs : List Loc) (ls : Array Slot), va_P (dC, dI) vwCl (wld_X10_leastEndless cI cJ cZ h_p0 ad_p0 p0_places p0_steps p0_pastFirst p0_past p0_goings p0_rowSize p0_ways p0_hasField p0_fieldSize p0_faultNow p0_hasTree p0_treeSize p0_weightCount p0_roundCount p0_setCount p0_nodes) H → va_D A (wld_X10_leastEndless cI cJ cZ h_p0 ad_p0 p0_places p0_steps p0_pastFirst p0_past p0_goings p0_rowSize p0_ways p0_hasField p0_fieldSize p0_faultNow p0_hasTree p0_treeSize p0_weightCount p0_roundCount p0_setCount p0_nodes) → va_S A s.heap H locs → lv_has ls 3 [(0, .ref h_p0), (1, .int v1)] → W p l e ({ frames := 0, cells := 0, slots := 0, locals := 0 }) s m args below meth c H locs 0 0 (MQ below (q_X10_leastEndless dC dI cI cJ cZ h_p0 ad_p0 p0_places p0_steps p0_pastFirst p0_past p0_goings p0_rowSize p0_ways p0_hasField p0_fieldSize p0_faultNow p0_hasTree p0_treeSize p0_weightCount p0_roundCount p0_setCount p0_nodes post A) args s 0 0 A) (F0 m 2 ls []) := by
  obtain ⟨hx, hb, hr, hml, hown, hts, hlocks, hK, hA, n1, n2⟩ := id E0
  have iX10 : ∀ w ∈ u_ws RX10 TX10 50, w ∈ wsX10_leastEndless := fun w h => List.mem_cons_of_mem _ (List.mem_append_right _ h)
  intro n
  induction n with
  | zero => intro v1 hw; exact hw.elim
  | succ n ih =>
    intro v1 hw H locs ls hP hD hS hl
    have hw : w_X10_leastEndless_L2b p0_places p0_treeSize p0_nodes post K (w_X10_leastEndless_L2 p0_places p0_treeSize p0_nodes post K n) v1 := hw
    unfold w_X10_leastEndless_L2b at hw
    refine lv_iload_n hx hb dX10_leastEndless_2 rfl (lv_at hl 1 rfl) ?_
    refine lv_aload_n hx hb dX10_leastEndless_3 rfl (lv_at hl 0 rfl) ?_
    refine va_get (D := (dC, dI)) (ci := 10) (v := .int p0_treeSize) (C := RX10) (T := TX10) (N := 50) hx hb hts iX10 hown hK hP 0 rfl rfl 35 (by decide) (hts (.fieldLink RX10 140 "NetHouseModel" "treeSize" "I") (by decide +kernel)) (fun _ h9 => h9) rfl dX10_leastEndless_4 ?_
    refine lv_icmp_ge (tgt := 48) hx hb dX10_leastEndless_7 (by decide) (fun c1 => ?_) (fun c2 => ?_)
    · have hw := hw.1 c1
      exact hk _ _ _ _ hw hP hD hS (lv_sub hl [] rfl)
    · have hw := hw.2 c2
      refine lv_iconst (v := 0) hx hb dX10_leastEndless_10 (by decide) ?_
      refine lv_istore_n (lv' := [(2, .int (0 : Int32)), (0, .ref h_p0), (1, .int v1)]) hx hb dX10_leastEndless_11 rfl hl (by decide) rfl (fun ls hl => ?_)
      obtain ⟨n8, hw⟩ := hw
      refine c_X10_leastEndless_L12 (l := l)  E0 ?_ n8 _ hw _ _ _ hP hD hS (lv_sub hl [1, 2, 0] rfl)
      · intro v9 H locs ls hw hP hD hS hl
        have hP : va_P (dC, dI) vwCl (wld_X10_leastEndless cI cJ cZ h_p0 ad_p0 p0_places p0_steps p0_pastFirst p0_past p0_goings p0_rowSize p0_ways p0_hasField p0_fieldSize p0_faultNow p0_hasTree p0_treeSize p0_weightCount p0_roundCount p0_setCount p0_nodes) H := hP
        have hD : va_D A (wld_X10_leastEndless cI cJ cZ h_p0 ad_p0 p0_places p0_steps p0_pastFirst p0_past p0_goings p0_rowSize p0_ways p0_hasField p0_fieldSize p0_faultNow p0_hasTree p0_treeSize p0_weightCount p0_roundCount p0_setCount p0_nodes) := hD
        obtain ⟨x10, ex10⟩ : ∃ y : Int32, y = v1 + (1 : Int32) := ⟨_, rfl⟩
        have hw := hw x10 ex10
        refine lv_iinc (v := x10) (lv' := [(1, .int x10), (0, .ref h_p0)]) hx hb dX10_leastEndless_42 hl (k := 1) rfl (by rw [ex10]; rfl) (by decide) rfl (fun ls hl => ?_)
        refine lv_goto (tgt := 2) hx hb dX10_leastEndless_45 (by decide) ?_
        exact ih _ hw _ _ _ hP hD hS (lv_sub hl [1, 0] rfl)
set_option maxHeartbeats 4000000 in
set_option maxRecDepth 100000 in
theorem c_X10_leastEndless {l : Launch} {dC : Nat → ClassId} {dI : Nat → Nat → Nat} {sz : Nat} {cI cJ cZ : ClassId} {h_p0 : Nat} {ad_p0 : Nat → Nat} {p0_places : Int32} {p0_steps : Int32} {p0_pastFirst : Int32} {p0_past : Int32} {p0_goings : Int32} {p0_rowSize : Int32} {p0_ways : Int32} {p0_hasField : Int32} {p0_fieldSize : Int32} {p0_faultNow : Int32} {p0_hasTree : Int32} {p0_treeSize : Int32} {p0_weightCount : Int32} {p0_roundCount : Int32} {p0_setCount : Int32} {p0_nodes : Nat → Int32}  {post : Int32 → Prop} (hw : w_X10_leastEndless p0_places p0_treeSize p0_nodes post) : Met l yX10_leastEndless wsX10_leastEndless ({ frames := 0, cells := 0, slots := 0, locals := 0 }) (va_Pc [.ref h_p0] (xPre (dC, dI) cI cJ cZ (wld_X10_leastEndless cI cJ cZ h_p0 ad_p0 p0_places p0_steps p0_pastFirst p0_past p0_goings p0_rowSize p0_ways p0_hasField p0_fieldSize p0_faultNow p0_hasTree p0_treeSize p0_weightCount p0_roundCount p0_setCount p0_nodes) sz)) (q_X10_leastEndless dC dI cI cJ cZ h_p0 ad_p0 p0_places p0_steps p0_pastFirst p0_past p0_goings p0_rowSize p0_ways p0_hasField p0_fieldSize p0_faultNow p0_hasTree p0_treeSize p0_weightCount p0_roundCount p0_setCount p0_nodes post (va_A (wld_X10_leastEndless cI cJ cZ h_p0 ad_p0 p0_places p0_steps p0_pastFirst p0_past p0_goings p0_rowSize p0_ways p0_hasField p0_fieldSize p0_faultNow p0_hasTree p0_treeSize p0_weightCount p0_roundCount p0_setCount p0_nodes) sz)) 0 0 (va_A (wld_X10_leastEndless cI cJ cZ h_p0 ad_p0 p0_places p0_steps p0_pastFirst p0_past p0_goings p0_rowSize p0_ways p0_hasField p0_fieldSize p0_faultNow p0_hasTree p0_treeSize p0_weightCount p0_roundCount p0_setCount p0_nodes) sz) := by
  refine x_met (cc := cX10_leastEndless) (maxL := 3) (ret := (some .int)) (own := RX10) (Qc := fun A => (q_X10_leastEndless dC dI cI cJ cZ h_p0 ad_p0 p0_places p0_steps p0_pastFirst p0_past p0_goings p0_rowSize p0_ways p0_hasField p0_fieldSize p0_faultNow p0_hasTree p0_treeSize p0_weightCount p0_roundCount p0_setCount p0_nodes post A)) (by decide) rfl rfl (Nat.le_of_ble_eq_true rfl) ?_
  intro p e s m args below meth c A ls E0 hP hD hS hl
  obtain ⟨hx, hb, hr, hml, hown, hts, hlocks, hK, hA, n1, n2⟩ := id E0
  have iX10 : ∀ w ∈ u_ws RX10 TX10 50, w ∈ wsX10_leastEndless := fun w h => List.mem_cons_of_mem _ (List.mem_append_right _ h)
  have hS0 := hS
  have hl : lv_has ls 3 [(0, .ref h_p0)] := hl
  unfold w_X10_leastEndless at hw
  obtain ⟨H, hH⟩ : ∃ H, H = s.heap := ⟨_, rfl⟩
  have hS : va_S A s.heap H [] := by rw [hH]; exact hS
  have hP : va_P (dC, dI) vwCl (wld_X10_leastEndless cI cJ cZ h_p0 ad_p0 p0_places p0_steps p0_pastFirst p0_past p0_goings p0_rowSize p0_ways p0_hasField p0_fieldSize p0_faultNow p0_hasTree p0_treeSize p0_weightCount p0_roundCount p0_setCount p0_nodes) H := by rw [hH]; exact hP
  suffices hG : W p l e ({ frames := 0, cells := 0, slots := 0, locals := 0 }) s m args below meth c H [] 0 0 (MQ below (q_X10_leastEndless dC dI cI cJ cZ h_p0 ad_p0 p0_places p0_steps p0_pastFirst p0_past p0_goings p0_rowSize p0_ways p0_hasField p0_fieldSize p0_faultNow p0_hasTree p0_treeSize p0_weightCount p0_roundCount p0_setCount p0_nodes post A) args s 0 0 A) (F0 m 0 ls []) by rw [hH] at hG; exact hG
  clear hH
  refine lv_iconst (v := 0) hx hb dX10_leastEndless_0 (by decide) ?_
  refine lv_istore_n (lv' := [(1, .int (0 : Int32)), (0, .ref h_p0)]) hx hb dX10_leastEndless_1 rfl hl (by decide) rfl (fun ls hl => ?_)
  obtain ⟨n11, hw⟩ := hw
  refine c_X10_leastEndless_L2 (l := l)  E0 ?_ n11 _ hw _ _ _ hP hD hS (lv_sub hl [1, 0] rfl)
  · intro v12 H locs ls hw hP hD hS hl
    have hP : va_P (dC, dI) vwCl (wld_X10_leastEndless cI cJ cZ h_p0 ad_p0 p0_places p0_steps p0_pastFirst p0_past p0_goings p0_rowSize p0_ways p0_hasField p0_fieldSize p0_faultNow p0_hasTree p0_treeSize p0_weightCount p0_roundCount p0_setCount p0_nodes) H := hP
    have hD : va_D A (wld_X10_leastEndless cI cJ cZ h_p0 ad_p0 p0_places p0_steps p0_pastFirst p0_past p0_goings p0_rowSize p0_ways p0_hasField p0_fieldSize p0_faultNow p0_hasTree p0_treeSize p0_weightCount p0_roundCount p0_setCount p0_nodes) := hD
    refine lv_ldc (v := -2000000005) hx hb hown (hts (.constant RX10 85 (-2000000005)) (by decide +kernel)) dX10_leastEndless_48 ?_
    exact x_iret (w1 := fun (u : Unit) => (wld_X10_leastEndless cI cJ cZ h_p0 ad_p0 p0_places p0_steps p0_pastFirst p0_past p0_goings p0_rowSize p0_ways p0_hasField p0_fieldSize p0_faultNow p0_hasTree p0_treeSize p0_weightCount p0_roundCount p0_setCount p0_nodes)) hx hb hr hlocks () hw hP hD hS dX10_leastEndless_50
abbrev wld_X10_depthOf (cI cJ cZ : ClassId) (h_p0 : Nat) (ad_p0 : Nat → Nat) (p0_places : Int32) (p0_steps : Int32) (p0_pastFirst : Int32) (p0_past : Int32) (p0_goings : Int32) (p0_rowSize : Int32) (p0_ways : Int32) (p0_hasField : Int32) (p0_fieldSize : Int32) (p0_faultNow : Int32) (p0_hasTree : Int32) (p0_treeSize : Int32) (p0_weightCount : Int32) (p0_roundCount : Int32) (p0_setCount : Int32) (p0_aboveOf : Nat → Int32) : va_W := [(h_p0, .inr (10, [.int p0_places, .int p0_steps, .ref (ad_p0 2), .ref (ad_p0 3), .ref (ad_p0 4), .ref (ad_p0 5), .ref (ad_p0 6), .ref (ad_p0 7), .ref (ad_p0 8), .ref (ad_p0 9), .ref (ad_p0 10), .ref (ad_p0 11), .ref (ad_p0 12), .ref (ad_p0 13), .ref (ad_p0 14), .int p0_pastFirst, .int p0_past, .int p0_goings, .int p0_rowSize, .ref (ad_p0 19), .ref (ad_p0 20), .int p0_ways, .ref (ad_p0 22), .ref (ad_p0 23), .int p0_hasField, .int p0_fieldSize, .ref (ad_p0 26), .ref (ad_p0 27), .ref (ad_p0 28), .ref (ad_p0 29), .ref (ad_p0 30), .ref (ad_p0 31), .ref (ad_p0 32), .int p0_faultNow, .int p0_hasTree, .int p0_treeSize, .ref (ad_p0 36), .ref (ad_p0 37), .ref (ad_p0 38), .ref (ad_p0 39), .ref (ad_p0 40), .ref (ad_p0 41), .ref (ad_p0 42), .int p0_weightCount, .ref (ad_p0 44), .int p0_roundCount, .ref (ad_p0 46), .int p0_setCount, .ref (ad_p0 48), .ref (ad_p0 49)])), ((ad_p0 37), .inl (cI, 2000, .inl p0_aboveOf))]
abbrev q_X10_depthOf (dC : Nat → ClassId) (dI : Nat → Nat → Nat) (cI cJ cZ : ClassId) (h_p0 : Nat) (ad_p0 : Nat → Nat) (p0_places : Int32) (p0_steps : Int32) (p0_pastFirst : Int32) (p0_past : Int32) (p0_goings : Int32) (p0_rowSize : Int32) (p0_ways : Int32) (p0_hasField : Int32) (p0_fieldSize : Int32) (p0_faultNow : Int32) (p0_hasTree : Int32) (p0_treeSize : Int32) (p0_weightCount : Int32) (p0_roundCount : Int32) (p0_setCount : Int32) (p0_aboveOf : Nat → Int32) (post : Int32 → Prop) (A : Nat → Prop) : Array Value → State → Outcome → State → Prop := va_Qi (fun r (u : Unit) => post r ) (fun (u : Unit) t => xPost (dC, dI) A (wld_X10_depthOf cI cJ cZ h_p0 ad_p0 p0_places p0_steps p0_pastFirst p0_past p0_goings p0_rowSize p0_ways p0_hasField p0_fieldSize p0_faultNow p0_hasTree p0_treeSize p0_weightCount p0_roundCount p0_setCount p0_aboveOf) t) A
def w_X10_depthOf_L4b (p0_aboveOf : Nat → Int32) (post : Int32 → Prop) (K : (Int32) → (Int32) → Prop) (rec : (Int32) → (Int32) → Prop) (v2 : Int32) (v3 : Int32) : Prop :=
    vp_in v3 2000 ∧
    ((p0_aboveOf v3.toNatClampNeg) = (-2000000005 : Int32) →
      K v2 v3) ∧
    (¬ (p0_aboveOf v3.toNatClampNeg) = (-2000000005 : Int32) →
      ∀ x3 : Int32, x3 = v2 + (1 : Int32) →
      vp_in v3 2000 ∧
      ∀ x4 : Int32, x4 = (p0_aboveOf v3.toNatClampNeg) →
      rec x3 x4)
def w_X10_depthOf_L4 (p0_aboveOf : Nat → Int32) (post : Int32 → Prop) (K : (Int32) → (Int32) → Prop) : Nat → (Int32) → (Int32) → Prop
  | 0, _, _ => False
  | n + 1, v2, v3 => w_X10_depthOf_L4b p0_aboveOf post K (w_X10_depthOf_L4 p0_aboveOf post K n) v2 v3
def w_X10_depthOf (p0_aboveOf : Nat → Int32) (a1 : Int32) (post : Int32 → Prop) : Prop :=
  ∃ n : Nat, w_X10_depthOf_L4 p0_aboveOf post (fun v6 v7 =>
      (post v6)) n (0 : Int32) a1
set_option maxHeartbeats 4000000 in
set_option maxRecDepth 100000 in
theorem c_X10_depthOf_L4 {p : Program} {l : Launch} {e : Env} {s : State} {m : MethodId} {args : Array Value} {below : List Frame} {meth : Method} {c : Code} {dC : Nat → ClassId} {dI : Nat → Nat → Nat} {A : Nat → Prop} {cI cJ cZ : ClassId} {h_p0 : Nat} {ad_p0 : Nat → Nat} {p0_places : Int32} {p0_steps : Int32} {p0_pastFirst : Int32} {p0_past : Int32} {p0_goings : Int32} {p0_rowSize : Int32} {p0_ways : Int32} {p0_hasField : Int32} {p0_fieldSize : Int32} {p0_faultNow : Int32} {p0_hasTree : Int32} {p0_treeSize : Int32} {p0_weightCount : Int32} {p0_roundCount : Int32} {p0_setCount : Int32} {p0_aboveOf : Nat → Int32}  {post : Int32 → Prop} {K : (Int32) → (Int32) → Prop} (E0 : xEnv p s m args meth c cX10_depthOf (some .int) 4 RX10 wsX10_depthOf (dC, dI) cI cJ cZ A) (hk : ∀ (v2 : Int32) (v3 : Int32) (H : Heap) (locs : List Loc) (ls : Array Slot), K v2 v3 → va_P (dC, dI) vwCl (wld_X10_depthOf cI cJ cZ h_p0 ad_p0 p0_places p0_steps p0_pastFirst p0_past p0_goings p0_rowSize p0_ways p0_hasField p0_fieldSize p0_faultNow p0_hasTree p0_treeSize p0_weightCount p0_roundCount p0_setCount p0_aboveOf) H → va_D A (wld_X10_depthOf cI cJ cZ h_p0 ad_p0 p0_places p0_steps p0_pastFirst p0_past p0_goings p0_rowSize p0_ways p0_hasField p0_fieldSize p0_faultNow p0_hasTree p0_treeSize p0_weightCount p0_roundCount p0_setCount p0_aboveOf) → va_S A s.heap H locs → lv_has ls 4 [(2, .int v2)] → W p l e ({ frames := 0, cells := 0, slots := 0, locals := 0 }) s m args below meth c H locs 0 0 (MQ below (q_X10_depthOf dC dI cI cJ cZ h_p0 ad_p0 p0_places p0_steps p0_pastFirst p0_past p0_goings p0_rowSize p0_ways p0_hasField p0_fieldSize p0_faultNow p0_hasTree p0_treeSize p0_weightCount p0_roundCount p0_setCount p0_aboveOf post A) args s 0 0 A) (F0 m 28 ls [])) : ∀ (n : Nat) (v2 : Int32) (v3 : Int32), w_X10_depthOf_L4 p0_aboveOf post K n v2 v3 → ∀ (H : Heap) (locs : List Loc) (ls : Array Slot), va_P (dC, dI) vwCl (wld_X10_depthOf cI cJ cZ h_p0 ad_p0 p0_places p0_steps p0_pastFirst p0_past p0_goings p0_rowSize p0_ways p0_hasField p0_fieldSize p0_faultNow p0_hasTree p0_treeSize p0_weightCount p0_roundCount p0_setCount p0_aboveOf) H → va_D A (wld_X10_depthOf cI cJ cZ h_p0 ad_p0 p0_places p0_steps p0_pastFirst p0_past p0_goings p0_rowSize p0_ways p0_hasField p0_fieldSize p0_faultNow p0_hasTree p0_treeSize p0_weightCount p0_roundCount p0_setCount p0_aboveOf) → va_S A s.heap H locs → lv_has ls 4 [(0, .ref h_p0), (2, .int v2), (3, .int v3)] → W p l e ({ frames := 0, cells := 0, slots := 0, locals := 0 }) s m args below meth c H locs 0 0 (MQ below (q_X10_depthOf dC dI cI cJ cZ h_p0 ad_p0 p0_places p0_steps p0_pastFirst p0_past p0_goings p0_rowSize p0_ways p0_hasField p0_fieldSize p0_faultNow p0_hasTree p0_treeSize p0_weightCount p0_roundCount p0_setCount p0_aboveOf post A) args s 0 0 A) (F0 m 4 ls []) := by
  obtain ⟨hx, hb, hr, hml, hown, hts, hlocks, hK, hA, n1, n2⟩ := id E0
  have iX10 : ∀ w ∈ u_ws RX10 TX10 50, w ∈ wsX10_depthOf := fun w h => List.mem_cons_of_mem _ (List.mem_append_right _ h)
  intro n
  induction n with
  | zero => intro v2 v3 hw; exact hw.elim
  | succ n ih =>
    intro v2 v3 hw H locs ls hP hD hS hl
    have hw : w_X10_depthOf_L4b p0_aboveOf post K (w_X10_depthOf_L4 p0_aboveOf post K n) v2 v3 := hw
    unfold w_X10_depthOf_L4b at hw
    refine lv_aload_n hx hb dX10_depthOf_4 rfl (lv_at hl 0 rfl) ?_
    refine va_get (D := (dC, dI)) (ci := 10) (v := .ref (ad_p0 37)) (C := RX10) (T := TX10) (N := 50) hx hb hts iX10 hown hK hP 0 rfl rfl 37 (by decide) (hts (.fieldLink RX10 93 "NetHouseModel" "aboveOf" "[I") (by decide +kernel)) (fun _ h9 => h9) rfl dX10_depthOf_5 ?_
    refine lv_iload_n hx hb dX10_depthOf_8 rfl (lv_at hl 2 rfl) ?_
    refine va_iald hx hb hK hP 1 0 rfl rfl hw.1 dX10_depthOf_9 ?_
    have hw := hw.2
    refine lv_ldc (v := -2000000005) hx hb hown (hts (.constant RX10 85 (-2000000005)) (by decide +kernel)) dX10_depthOf_10 ?_
    refine lv_icmp_eq (tgt := 28) hx hb dX10_depthOf_12 (by decide) (fun c1 => ?_) (fun c2 => ?_)
    · have hw := hw.1 c1
      exact hk _ _ _ _ _ hw hP hD hS (lv_sub hl [1] rfl)
    · have hw := hw.2 c2
      obtain ⟨x3, ex3⟩ : ∃ y : Int32, y = v2 + (1 : Int32) := ⟨_, rfl⟩
      have hw := hw x3 ex3
      refine lv_iinc (v := x3) (lv' := [(2, .int x3), (0, .ref h_p0), (3, .int v3)]) hx hb dX10_depthOf_15 hl (k := 1) rfl (by rw [ex3]; rfl) (by decide) rfl (fun ls hl => ?_)
      refine lv_aload_n hx hb dX10_depthOf_18 rfl (lv_at hl 1 rfl) ?_
      refine va_get (D := (dC, dI)) (ci := 10) (v := .ref (ad_p0 37)) (C := RX10) (T := TX10) (N := 50) hx hb hts iX10 hown hK hP 0 rfl rfl 37 (by decide) (hts (.fieldLink RX10 93 "NetHouseModel" "aboveOf" "[I") (by decide +kernel)) (fun _ h9 => h9) rfl dX10_depthOf_19 ?_
      refine lv_iload_n hx hb dX10_depthOf_22 rfl (lv_at hl 2 rfl) ?_
      refine va_iald hx hb hK hP 1 0 rfl rfl hw.1 dX10_depthOf_23 ?_
      have hw := hw.2
      refine lv_topi (fun x4 ex4 => ?_)
      have hw := hw x4 ex4
      refine lv_istore_n (lv' := [(3, .int x4), (2, .int x3), (0, .ref h_p0)]) hx hb dX10_depthOf_24 rfl hl (by decide) rfl (fun ls hl => ?_)
      refine lv_goto (tgt := 4) hx hb dX10_depthOf_25 (by decide) ?_
      exact ih _ _ hw _ _ _ hP hD hS (lv_sub hl [2, 1, 0] rfl)
set_option maxHeartbeats 4000000 in
set_option maxRecDepth 100000 in
theorem c_X10_depthOf {l : Launch} {dC : Nat → ClassId} {dI : Nat → Nat → Nat} {sz : Nat} {cI cJ cZ : ClassId} {h_p0 : Nat} {ad_p0 : Nat → Nat} {p0_places : Int32} {p0_steps : Int32} {p0_pastFirst : Int32} {p0_past : Int32} {p0_goings : Int32} {p0_rowSize : Int32} {p0_ways : Int32} {p0_hasField : Int32} {p0_fieldSize : Int32} {p0_faultNow : Int32} {p0_hasTree : Int32} {p0_treeSize : Int32} {p0_weightCount : Int32} {p0_roundCount : Int32} {p0_setCount : Int32} {p0_aboveOf : Nat → Int32} {a1 : Int32} {post : Int32 → Prop} (hw : w_X10_depthOf p0_aboveOf a1 post) : Met l yX10_depthOf wsX10_depthOf ({ frames := 0, cells := 0, slots := 0, locals := 0 }) (va_Pc [.ref h_p0, .int a1] (xPre (dC, dI) cI cJ cZ (wld_X10_depthOf cI cJ cZ h_p0 ad_p0 p0_places p0_steps p0_pastFirst p0_past p0_goings p0_rowSize p0_ways p0_hasField p0_fieldSize p0_faultNow p0_hasTree p0_treeSize p0_weightCount p0_roundCount p0_setCount p0_aboveOf) sz)) (q_X10_depthOf dC dI cI cJ cZ h_p0 ad_p0 p0_places p0_steps p0_pastFirst p0_past p0_goings p0_rowSize p0_ways p0_hasField p0_fieldSize p0_faultNow p0_hasTree p0_treeSize p0_weightCount p0_roundCount p0_setCount p0_aboveOf post (va_A (wld_X10_depthOf cI cJ cZ h_p0 ad_p0 p0_places p0_steps p0_pastFirst p0_past p0_goings p0_rowSize p0_ways p0_hasField p0_fieldSize p0_faultNow p0_hasTree p0_treeSize p0_weightCount p0_roundCount p0_setCount p0_aboveOf) sz)) 0 0 (va_A (wld_X10_depthOf cI cJ cZ h_p0 ad_p0 p0_places p0_steps p0_pastFirst p0_past p0_goings p0_rowSize p0_ways p0_hasField p0_fieldSize p0_faultNow p0_hasTree p0_treeSize p0_weightCount p0_roundCount p0_setCount p0_aboveOf) sz) := by
  refine x_met (cc := cX10_depthOf) (maxL := 4) (ret := (some .int)) (own := RX10) (Qc := fun A => (q_X10_depthOf dC dI cI cJ cZ h_p0 ad_p0 p0_places p0_steps p0_pastFirst p0_past p0_goings p0_rowSize p0_ways p0_hasField p0_fieldSize p0_faultNow p0_hasTree p0_treeSize p0_weightCount p0_roundCount p0_setCount p0_aboveOf post A)) (by decide) rfl rfl (Nat.le_of_ble_eq_true rfl) ?_
  intro p e s m args below meth c A ls E0 hP hD hS hl
  obtain ⟨hx, hb, hr, hml, hown, hts, hlocks, hK, hA, n1, n2⟩ := id E0
  have iX10 : ∀ w ∈ u_ws RX10 TX10 50, w ∈ wsX10_depthOf := fun w h => List.mem_cons_of_mem _ (List.mem_append_right _ h)
  have hS0 := hS
  have hl : lv_has ls 4 [(0, .ref h_p0), (1, .int a1)] := hl
  unfold w_X10_depthOf at hw
  obtain ⟨H, hH⟩ : ∃ H, H = s.heap := ⟨_, rfl⟩
  have hS : va_S A s.heap H [] := by rw [hH]; exact hS
  have hP : va_P (dC, dI) vwCl (wld_X10_depthOf cI cJ cZ h_p0 ad_p0 p0_places p0_steps p0_pastFirst p0_past p0_goings p0_rowSize p0_ways p0_hasField p0_fieldSize p0_faultNow p0_hasTree p0_treeSize p0_weightCount p0_roundCount p0_setCount p0_aboveOf) H := by rw [hH]; exact hP
  suffices hG : W p l e ({ frames := 0, cells := 0, slots := 0, locals := 0 }) s m args below meth c H [] 0 0 (MQ below (q_X10_depthOf dC dI cI cJ cZ h_p0 ad_p0 p0_places p0_steps p0_pastFirst p0_past p0_goings p0_rowSize p0_ways p0_hasField p0_fieldSize p0_faultNow p0_hasTree p0_treeSize p0_weightCount p0_roundCount p0_setCount p0_aboveOf post A) args s 0 0 A) (F0 m 0 ls []) by rw [hH] at hG; exact hG
  clear hH
  refine lv_iconst (v := 0) hx hb dX10_depthOf_0 (by decide) ?_
  refine lv_istore_n (lv' := [(2, .int (0 : Int32)), (0, .ref h_p0), (1, .int a1)]) hx hb dX10_depthOf_1 rfl hl (by decide) rfl (fun ls hl => ?_)
  refine lv_iload_n hx hb dX10_depthOf_2 rfl (lv_at hl 2 rfl) ?_
  refine lv_istore_n (lv' := [(3, .int a1), (2, .int (0 : Int32)), (0, .ref h_p0), (1, .int a1)]) hx hb dX10_depthOf_3 rfl hl (by decide) rfl (fun ls hl => ?_)
  obtain ⟨n5, hw⟩ := hw
  refine c_X10_depthOf_L4 (l := l)  E0 ?_ n5 _ _ hw _ _ _ hP hD hS (lv_sub hl [2, 1, 0] rfl)
  · intro v6 v7 H locs ls hw hP hD hS hl
    have hP : va_P (dC, dI) vwCl (wld_X10_depthOf cI cJ cZ h_p0 ad_p0 p0_places p0_steps p0_pastFirst p0_past p0_goings p0_rowSize p0_ways p0_hasField p0_fieldSize p0_faultNow p0_hasTree p0_treeSize p0_weightCount p0_roundCount p0_setCount p0_aboveOf) H := hP
    have hD : va_D A (wld_X10_depthOf cI cJ cZ h_p0 ad_p0 p0_places p0_steps p0_pastFirst p0_past p0_goings p0_rowSize p0_ways p0_hasField p0_fieldSize p0_faultNow p0_hasTree p0_treeSize p0_weightCount p0_roundCount p0_setCount p0_aboveOf) := hD
    refine lv_iload_n hx hb dX10_depthOf_28 rfl (lv_at hl 0 rfl) ?_
    exact x_iret (w1 := fun (u : Unit) => (wld_X10_depthOf cI cJ cZ h_p0 ad_p0 p0_places p0_steps p0_pastFirst p0_past p0_goings p0_rowSize p0_ways p0_hasField p0_fieldSize p0_faultNow p0_hasTree p0_treeSize p0_weightCount p0_roundCount p0_setCount p0_aboveOf)) hx hb hr hlocks () hw hP hD hS dX10_depthOf_29
abbrev wld_X10_comeTo (cI cJ cZ : ClassId) (h_p0 : Nat) (ad_p0 : Nat → Nat) (p0_places : Int32) (p0_steps : Int32) (p0_pastFirst : Int32) (p0_past : Int32) (p0_goings : Int32) (p0_rowSize : Int32) (p0_ways : Int32) (p0_hasField : Int32) (p0_fieldSize : Int32) (p0_faultNow : Int32) (p0_hasTree : Int32) (p0_treeSize : Int32) (p0_weightCount : Int32) (p0_roundCount : Int32) (p0_setCount : Int32) (p0_aboveOf : Nat → Int32) (p0_come : Nat → Int32) (p0_nodes : Nat → Int32) (p0_puts : Nat → Int32) (p0_stepOf : Nat → Int32) (p0_takes : Nat → Int32) : va_W := [(h_p0, .inr (10, [.int p0_places, .int p0_steps, .ref (ad_p0 2), .ref (ad_p0 3), .ref (ad_p0 4), .ref (ad_p0 5), .ref (ad_p0 6), .ref (ad_p0 7), .ref (ad_p0 8), .ref (ad_p0 9), .ref (ad_p0 10), .ref (ad_p0 11), .ref (ad_p0 12), .ref (ad_p0 13), .ref (ad_p0 14), .int p0_pastFirst, .int p0_past, .int p0_goings, .int p0_rowSize, .ref (ad_p0 19), .ref (ad_p0 20), .int p0_ways, .ref (ad_p0 22), .ref (ad_p0 23), .int p0_hasField, .int p0_fieldSize, .ref (ad_p0 26), .ref (ad_p0 27), .ref (ad_p0 28), .ref (ad_p0 29), .ref (ad_p0 30), .ref (ad_p0 31), .ref (ad_p0 32), .int p0_faultNow, .int p0_hasTree, .int p0_treeSize, .ref (ad_p0 36), .ref (ad_p0 37), .ref (ad_p0 38), .ref (ad_p0 39), .ref (ad_p0 40), .ref (ad_p0 41), .ref (ad_p0 42), .int p0_weightCount, .ref (ad_p0 44), .int p0_roundCount, .ref (ad_p0 46), .int p0_setCount, .ref (ad_p0 48), .ref (ad_p0 49)])), ((ad_p0 37), .inl (cI, 2000, .inl p0_aboveOf)), ((ad_p0 31), .inl (cI, 16, .inl p0_come)), ((ad_p0 36), .inl (cI, 32000, .inl p0_nodes)), ((ad_p0 5), .inl (cI, 256, .inl p0_puts)), ((ad_p0 38), .inl (cI, 2000, .inl p0_stepOf)), ((ad_p0 4), .inl (cI, 256, .inl p0_takes))]
abbrev q_X10_comeTo (dC : Nat → ClassId) (dI : Nat → Nat → Nat) (cI cJ cZ : ClassId) (h_p0 : Nat) (ad_p0 : Nat → Nat) (p0_places : Int32) (p0_steps : Int32) (p0_pastFirst : Int32) (p0_past : Int32) (p0_goings : Int32) (p0_rowSize : Int32) (p0_ways : Int32) (p0_hasField : Int32) (p0_fieldSize : Int32) (p0_faultNow : Int32) (p0_hasTree : Int32) (p0_treeSize : Int32) (p0_weightCount : Int32) (p0_roundCount : Int32) (p0_setCount : Int32) (p0_aboveOf : Nat → Int32) (p0_come : Nat → Int32) (p0_nodes : Nat → Int32) (p0_puts : Nat → Int32) (p0_stepOf : Nat → Int32) (p0_takes : Nat → Int32) (post : (Nat → Int32) → Prop) (A : Nat → Prop) : Array Value → State → Outcome → State → Prop := va_Qv (fun (u : (Nat → Int32)) => post u) (fun (u : (Nat → Int32)) t => xPost (dC, dI) A (wld_X10_comeTo cI cJ cZ h_p0 ad_p0 p0_places p0_steps p0_pastFirst p0_past p0_goings p0_rowSize p0_ways p0_hasField p0_fieldSize p0_faultNow p0_hasTree p0_treeSize p0_weightCount p0_roundCount p0_setCount p0_aboveOf u p0_nodes p0_puts p0_stepOf p0_takes) t) A
def w_X10_comeTo_L2b (v1 : Int32) (p0_places : Int32) (p0_aboveOf : Nat → Int32) (p0_nodes : Nat → Int32) (p0_puts : Nat → Int32) (p0_stepOf : Nat → Int32) (p0_takes : Nat → Int32) (post : (Nat → Int32) → Prop) (K : (Int32) → (Nat → Int32) → Prop) (rec : (Int32) → (Nat → Int32) → Prop) (v2 : Int32) (p0_come : Nat → Int32) : Prop :=
    (p0_places ≤ v2 →
      K v2 p0_come) ∧
    (¬ p0_places ≤ v2 →
      vp_in v1 2000 ∧
      ∀ x3 : Int32, x3 = (p0_stepOf v1.toNatClampNeg) →
      vp_in v1 2000 ∧
      vp_in (((16 : Int32) * (p0_aboveOf v1.toNatClampNeg)) + v2) 32000 ∧
      vp_in (((16 : Int32) * x3) + v2) 256 ∧
      vp_in (((16 : Int32) * x3) + v2) 256 ∧
      vp_in v2 16 ∧
      ∀ x4 : Int32, x4 = v2 + (1 : Int32) →
      rec x4 (upd p0_come v2.toNatClampNeg (((p0_nodes (((16 : Int32) * (p0_aboveOf v1.toNatClampNeg)) + v2).toNatClampNeg) + (p0_puts (((16 : Int32) * x3) + v2).toNatClampNeg)) - (p0_takes (((16 : Int32) * x3) + v2).toNatClampNeg))))
def w_X10_comeTo_L2 (v1 : Int32) (p0_places : Int32) (p0_aboveOf : Nat → Int32) (p0_nodes : Nat → Int32) (p0_puts : Nat → Int32) (p0_stepOf : Nat → Int32) (p0_takes : Nat → Int32) (post : (Nat → Int32) → Prop) (K : (Int32) → (Nat → Int32) → Prop) : Nat → (Int32) → (Nat → Int32) → Prop
  | 0, _, _ => False
  | n + 1, v2, p0_come => w_X10_comeTo_L2b v1 p0_places p0_aboveOf p0_nodes p0_puts p0_stepOf p0_takes post K (w_X10_comeTo_L2 v1 p0_places p0_aboveOf p0_nodes p0_puts p0_stepOf p0_takes post K n) v2 p0_come
def w_X10_comeTo (p0_places : Int32) (p0_aboveOf : Nat → Int32) (p0_come : Nat → Int32) (p0_nodes : Nat → Int32) (p0_puts : Nat → Int32) (p0_stepOf : Nat → Int32) (p0_takes : Nat → Int32) (a1 : Int32) (post : (Nat → Int32) → Prop) : Prop :=
  ∃ n : Nat, w_X10_comeTo_L2 a1 p0_places p0_aboveOf p0_nodes p0_puts p0_stepOf p0_takes post (fun v6 s7 =>
      (post s7)) n (0 : Int32) p0_come
set_option maxHeartbeats 4000000 in
set_option maxRecDepth 100000 in
theorem c_X10_comeTo_L2 {p : Program} {l : Launch} {e : Env} {s : State} {m : MethodId} {args : Array Value} {below : List Frame} {meth : Method} {c : Code} {dC : Nat → ClassId} {dI : Nat → Nat → Nat} {A : Nat → Prop} {cI cJ cZ : ClassId} {h_p0 : Nat} {ad_p0 : Nat → Nat} {p0_places : Int32} {p0_steps : Int32} {p0_pastFirst : Int32} {p0_past : Int32} {p0_goings : Int32} {p0_rowSize : Int32} {p0_ways : Int32} {p0_hasField : Int32} {p0_fieldSize : Int32} {p0_faultNow : Int32} {p0_hasTree : Int32} {p0_treeSize : Int32} {p0_weightCount : Int32} {p0_roundCount : Int32} {p0_setCount : Int32} {p0_aboveOf : Nat → Int32} {p0_nodes : Nat → Int32} {p0_puts : Nat → Int32} {p0_stepOf : Nat → Int32} {p0_takes : Nat → Int32} {v1 : Int32} {z_p0_come : Nat → Int32} {post : (Nat → Int32) → Prop} {K : (Int32) → (Nat → Int32) → Prop} (E0 : xEnv p s m args meth c cX10_comeTo none 4 RX10 wsX10_comeTo (dC, dI) cI cJ cZ A) (hk : ∀ (v2 : Int32) (p0_come : Nat → Int32) (H : Heap) (locs : List Loc) (ls : Array Slot), K v2 p0_come → va_P (dC, dI) vwCl (wld_X10_comeTo cI cJ cZ h_p0 ad_p0 p0_places p0_steps p0_pastFirst p0_past p0_goings p0_rowSize p0_ways p0_hasField p0_fieldSize p0_faultNow p0_hasTree p0_treeSize p0_weightCount p0_roundCount p0_setCount p0_aboveOf p0_come p0_nodes p0_puts p0_stepOf p0_takes) H → va_D A (wld_X10_comeTo cI cJ cZ h_p0 ad_p0 p0_places p0_steps p0_pastFirst p0_past p0_goings p0_rowSize p0_ways p0_hasField p0_fieldSize p0_faultNow p0_hasTree p0_treeSize p0_weightCount p0_roundCount p0_setCount p0_aboveOf p0_come p0_nodes p0_puts p0_stepOf p0_takes) → va_S A s.heap H locs → lv_has ls 4 [] → W p l e ({ frames := 0, cells := 0, slots := 0, locals := 0 }) s m args below meth c H locs 0 0 (MQ below (q_X10_comeTo dC dI cI cJ cZ h_p0 ad_p0 p0_places p0_steps p0_pastFirst p0_past p0_goings p0_rowSize p0_ways p0_hasField p0_fieldSize p0_faultNow p0_hasTree p0_treeSize p0_weightCount p0_roundCount p0_setCount p0_aboveOf z_p0_come p0_nodes p0_puts p0_stepOf p0_takes post A) args s 0 0 A) (F0 m 69 ls [])) : ∀ (n : Nat) (v2 : Int32) (p0_come : Nat → Int32), w_X10_comeTo_L2 v1 p0_places p0_aboveOf p0_nodes p0_puts p0_stepOf p0_takes post K n v2 p0_come → ∀ (H : Heap) (locs : List Loc) (ls : Array Slot), va_P (dC, dI) vwCl (wld_X10_comeTo cI cJ cZ h_p0 ad_p0 p0_places p0_steps p0_pastFirst p0_past p0_goings p0_rowSize p0_ways p0_hasField p0_fieldSize p0_faultNow p0_hasTree p0_treeSize p0_weightCount p0_roundCount p0_setCount p0_aboveOf p0_come p0_nodes p0_puts p0_stepOf p0_takes) H → va_D A (wld_X10_comeTo cI cJ cZ h_p0 ad_p0 p0_places p0_steps p0_pastFirst p0_past p0_goings p0_rowSize p0_ways p0_hasField p0_fieldSize p0_faultNow p0_hasTree p0_treeSize p0_weightCount p0_roundCount p0_setCount p0_aboveOf p0_come p0_nodes p0_puts p0_stepOf p0_takes) → va_S A s.heap H locs → lv_has ls 4 [(0, .ref h_p0), (1, .int v1), (2, .int v2)] → W p l e ({ frames := 0, cells := 0, slots := 0, locals := 0 }) s m args below meth c H locs 0 0 (MQ below (q_X10_comeTo dC dI cI cJ cZ h_p0 ad_p0 p0_places p0_steps p0_pastFirst p0_past p0_goings p0_rowSize p0_ways p0_hasField p0_fieldSize p0_faultNow p0_hasTree p0_treeSize p0_weightCount p0_roundCount p0_setCount p0_aboveOf z_p0_come p0_nodes p0_puts p0_stepOf p0_takes post A) args s 0 0 A) (F0 m 2 ls []) := by
  obtain ⟨hx, hb, hr, hml, hown, hts, hlocks, hK, hA, n1, n2⟩ := id E0
  have iX10 : ∀ w ∈ u_ws RX10 TX10 50, w ∈ wsX10_comeTo := fun w h => List.mem_cons_of_mem _ (List.mem_append_right _ h)
  intro n
  induction n with
  | zero => intro v2 p0_come hw; exact hw.elim
  | succ n ih =>
    intro v2 p0_come hw H locs ls hP hD hS hl
    have hw : w_X10_comeTo_L2b v1 p0_places p0_aboveOf p0_nodes p0_puts p0_stepOf p0_takes post K (w_X10_comeTo_L2 v1 p0_places p0_aboveOf p0_nodes p0_puts p0_stepOf p0_takes post K n) v2 p0_come := hw
    unfold w_X10_comeTo_L2b at hw
    refine lv_iload_n hx hb dX10_comeTo_2 rfl (lv_at hl 2 rfl) ?_
    refine lv_aload_n hx hb dX10_comeTo_3 rfl (lv_at hl 0 rfl) ?_
    refine va_get (D := (dC, dI)) (ci := 10) (v := .int p0_places) (C := RX10) (T := TX10) (N := 50) hx hb hts iX10 hown hK hP 0 rfl rfl 0 (by decide) (hts (.fieldLink RX10 127 "NetHouseModel" "places" "I") (by decide +kernel)) (fun _ h9 => h9) rfl dX10_comeTo_4 ?_
    refine lv_icmp_ge (tgt := 69) hx hb dX10_comeTo_7 (by decide) (fun c1 => ?_) (fun c2 => ?_)
    · have hw := hw.1 c1
      exact hk _ _ _ _ _ hw hP hD hS (lv_sub hl [] rfl)
    · have hw := hw.2 c2
      refine lv_aload_n hx hb dX10_comeTo_10 rfl (lv_at hl 0 rfl) ?_
      refine va_get (D := (dC, dI)) (ci := 10) (v := .ref (ad_p0 38)) (C := RX10) (T := TX10) (N := 50) hx hb hts iX10 hown hK hP 0 rfl rfl 38 (by decide) (hts (.fieldLink RX10 96 "NetHouseModel" "stepOf" "[I") (by decide +kernel)) (fun _ h9 => h9) rfl dX10_comeTo_11 ?_
      refine lv_iload_n hx hb dX10_comeTo_14 rfl (lv_at hl 1 rfl) ?_
      refine va_iald hx hb hK hP 5 0 rfl rfl hw.1 dX10_comeTo_15 ?_
      have hw := hw.2
      refine lv_topi (fun x3 ex3 => ?_)
      have hw := hw x3 ex3
      refine lv_istore_n (lv' := [(3, .int x3), (0, .ref h_p0), (1, .int v1), (2, .int v2)]) hx hb dX10_comeTo_16 rfl hl (by decide) rfl (fun ls hl => ?_)
      refine lv_aload_n hx hb dX10_comeTo_17 rfl (lv_at hl 1 rfl) ?_
      refine va_get (D := (dC, dI)) (ci := 10) (v := .ref (ad_p0 31)) (C := RX10) (T := TX10) (N := 50) hx hb hts iX10 hown hK hP 0 rfl rfl 31 (by decide) (hts (.fieldLink RX10 78 "NetHouseModel" "come" "[I") (by decide +kernel)) (fun _ h9 => h9) rfl dX10_comeTo_18 ?_
      refine lv_iload_n hx hb dX10_comeTo_21 rfl (lv_at hl 3 rfl) ?_
      refine lv_aload_n hx hb dX10_comeTo_22 rfl (lv_at hl 1 rfl) ?_
      refine va_get (D := (dC, dI)) (ci := 10) (v := .ref (ad_p0 36)) (C := RX10) (T := TX10) (N := 50) hx hb hts iX10 hown hK hP 0 rfl rfl 36 (by decide) (hts (.fieldLink RX10 90 "NetHouseModel" "nodes" "[I") (by decide +kernel)) (fun _ h9 => h9) rfl dX10_comeTo_23 ?_
      refine lv_bipush (v := 16) hx hb dX10_comeTo_26 (by decide) ?_
      refine lv_aload_n hx hb dX10_comeTo_28 rfl (lv_at hl 1 rfl) ?_
      refine va_get (D := (dC, dI)) (ci := 10) (v := .ref (ad_p0 37)) (C := RX10) (T := TX10) (N := 50) hx hb hts iX10 hown hK hP 0 rfl rfl 37 (by decide) (hts (.fieldLink RX10 93 "NetHouseModel" "aboveOf" "[I") (by decide +kernel)) (fun _ h9 => h9) rfl dX10_comeTo_29 ?_
      refine lv_iload_n hx hb dX10_comeTo_32 rfl (lv_at hl 2 rfl) ?_
      refine va_iald hx hb hK hP 1 0 rfl rfl hw.1 dX10_comeTo_33 ?_
      have hw := hw.2
      refine lv_imul hx hb dX10_comeTo_34 ?_
      refine lv_iload_n hx hb dX10_comeTo_35 rfl (lv_at hl 3 rfl) ?_
      refine lv_iadd hx hb dX10_comeTo_36 ?_
      refine va_iald hx hb hK hP 3 0 rfl rfl hw.1 dX10_comeTo_37 ?_
      have hw := hw.2
      refine lv_aload_n hx hb dX10_comeTo_38 rfl (lv_at hl 1 rfl) ?_
      refine va_get (D := (dC, dI)) (ci := 10) (v := .ref (ad_p0 5)) (C := RX10) (T := TX10) (N := 50) hx hb hts iX10 hown hK hP 0 rfl rfl 5 (by decide) (hts (.fieldLink RX10 19 "NetHouseModel" "puts" "[I") (by decide +kernel)) (fun _ h9 => h9) rfl dX10_comeTo_39 ?_
      refine lv_bipush (v := 16) hx hb dX10_comeTo_42 (by decide) ?_
      refine lv_iload_n hx hb dX10_comeTo_44 rfl (lv_at hl 0 rfl) ?_
      refine lv_imul hx hb dX10_comeTo_45 ?_
      refine lv_iload_n hx hb dX10_comeTo_46 rfl (lv_at hl 3 rfl) ?_
      refine lv_iadd hx hb dX10_comeTo_47 ?_
      refine va_iald hx hb hK hP 4 0 rfl rfl hw.1 dX10_comeTo_48 ?_
      have hw := hw.2
      refine lv_iadd hx hb dX10_comeTo_49 ?_
      refine lv_aload_n hx hb dX10_comeTo_50 rfl (lv_at hl 1 rfl) ?_
      refine va_get (D := (dC, dI)) (ci := 10) (v := .ref (ad_p0 4)) (C := RX10) (T := TX10) (N := 50) hx hb hts iX10 hown hK hP 0 rfl rfl 4 (by decide) (hts (.fieldLink RX10 16 "NetHouseModel" "takes" "[I") (by decide +kernel)) (fun _ h9 => h9) rfl dX10_comeTo_51 ?_
      refine lv_bipush (v := 16) hx hb dX10_comeTo_54 (by decide) ?_
      refine lv_iload_n hx hb dX10_comeTo_56 rfl (lv_at hl 0 rfl) ?_
      refine lv_imul hx hb dX10_comeTo_57 ?_
      refine lv_iload_n hx hb dX10_comeTo_58 rfl (lv_at hl 3 rfl) ?_
      refine lv_iadd hx hb dX10_comeTo_59 ?_
      refine va_iald hx hb hK hP 6 0 rfl rfl hw.1 dX10_comeTo_60 ?_
      have hw := hw.2
      refine lv_isub hx hb dX10_comeTo_61 ?_
      refine va_iast hx hb hK hP hD hS 2 0 rfl rfl hw.1 dX10_comeTo_62 (fun H locs hP hD hS => ?_)
      have hw := hw.2
      have hP : va_P (dC, dI) vwCl (wld_X10_comeTo cI cJ cZ h_p0 ad_p0 p0_places p0_steps p0_pastFirst p0_past p0_goings p0_rowSize p0_ways p0_hasField p0_fieldSize p0_faultNow p0_hasTree p0_treeSize p0_weightCount p0_roundCount p0_setCount p0_aboveOf (upd p0_come v2.toNatClampNeg (((p0_nodes (((16 : Int32) * (p0_aboveOf v1.toNatClampNeg)) + v2).toNatClampNeg) + (p0_puts (((16 : Int32) * x3) + v2).toNatClampNeg)) - (p0_takes (((16 : Int32) * x3) + v2).toNatClampNeg))) p0_nodes p0_puts p0_stepOf p0_takes) H := hP
      have hD : va_D A (wld_X10_comeTo cI cJ cZ h_p0 ad_p0 p0_places p0_steps p0_pastFirst p0_past p0_goings p0_rowSize p0_ways p0_hasField p0_fieldSize p0_faultNow p0_hasTree p0_treeSize p0_weightCount p0_roundCount p0_setCount p0_aboveOf (upd p0_come v2.toNatClampNeg (((p0_nodes (((16 : Int32) * (p0_aboveOf v1.toNatClampNeg)) + v2).toNatClampNeg) + (p0_puts (((16 : Int32) * x3) + v2).toNatClampNeg)) - (p0_takes (((16 : Int32) * x3) + v2).toNatClampNeg))) p0_nodes p0_puts p0_stepOf p0_takes) := hD
      obtain ⟨x4, ex4⟩ : ∃ y : Int32, y = v2 + (1 : Int32) := ⟨_, rfl⟩
      have hw := hw x4 ex4
      refine lv_iinc (v := x4) (lv' := [(2, .int x4), (3, .int x3), (0, .ref h_p0), (1, .int v1)]) hx hb dX10_comeTo_63 hl (k := 3) rfl (by rw [ex4]; rfl) (by decide) rfl (fun ls hl => ?_)
      refine lv_goto (tgt := 2) hx hb dX10_comeTo_66 (by decide) ?_
      exact ih _ _ hw _ _ _ hP hD hS (lv_sub hl [2, 3, 0] rfl)
set_option maxHeartbeats 4000000 in
set_option maxRecDepth 100000 in
theorem c_X10_comeTo {l : Launch} {dC : Nat → ClassId} {dI : Nat → Nat → Nat} {sz : Nat} {cI cJ cZ : ClassId} {h_p0 : Nat} {ad_p0 : Nat → Nat} {p0_places : Int32} {p0_steps : Int32} {p0_pastFirst : Int32} {p0_past : Int32} {p0_goings : Int32} {p0_rowSize : Int32} {p0_ways : Int32} {p0_hasField : Int32} {p0_fieldSize : Int32} {p0_faultNow : Int32} {p0_hasTree : Int32} {p0_treeSize : Int32} {p0_weightCount : Int32} {p0_roundCount : Int32} {p0_setCount : Int32} {p0_aboveOf : Nat → Int32} {p0_come : Nat → Int32} {p0_nodes : Nat → Int32} {p0_puts : Nat → Int32} {p0_stepOf : Nat → Int32} {p0_takes : Nat → Int32} {a1 : Int32} {post : (Nat → Int32) → Prop} (hw : w_X10_comeTo p0_places p0_aboveOf p0_come p0_nodes p0_puts p0_stepOf p0_takes a1 post) : Met l yX10_comeTo wsX10_comeTo ({ frames := 0, cells := 0, slots := 0, locals := 0 }) (va_Pc [.ref h_p0, .int a1] (xPre (dC, dI) cI cJ cZ (wld_X10_comeTo cI cJ cZ h_p0 ad_p0 p0_places p0_steps p0_pastFirst p0_past p0_goings p0_rowSize p0_ways p0_hasField p0_fieldSize p0_faultNow p0_hasTree p0_treeSize p0_weightCount p0_roundCount p0_setCount p0_aboveOf p0_come p0_nodes p0_puts p0_stepOf p0_takes) sz)) (q_X10_comeTo dC dI cI cJ cZ h_p0 ad_p0 p0_places p0_steps p0_pastFirst p0_past p0_goings p0_rowSize p0_ways p0_hasField p0_fieldSize p0_faultNow p0_hasTree p0_treeSize p0_weightCount p0_roundCount p0_setCount p0_aboveOf p0_come p0_nodes p0_puts p0_stepOf p0_takes post (va_A (wld_X10_comeTo cI cJ cZ h_p0 ad_p0 p0_places p0_steps p0_pastFirst p0_past p0_goings p0_rowSize p0_ways p0_hasField p0_fieldSize p0_faultNow p0_hasTree p0_treeSize p0_weightCount p0_roundCount p0_setCount p0_aboveOf p0_come p0_nodes p0_puts p0_stepOf p0_takes) sz)) 0 0 (va_A (wld_X10_comeTo cI cJ cZ h_p0 ad_p0 p0_places p0_steps p0_pastFirst p0_past p0_goings p0_rowSize p0_ways p0_hasField p0_fieldSize p0_faultNow p0_hasTree p0_treeSize p0_weightCount p0_roundCount p0_setCount p0_aboveOf p0_come p0_nodes p0_puts p0_stepOf p0_takes) sz) := by
  refine x_met (cc := cX10_comeTo) (maxL := 4) (ret := none) (own := RX10) (Qc := fun A => (q_X10_comeTo dC dI cI cJ cZ h_p0 ad_p0 p0_places p0_steps p0_pastFirst p0_past p0_goings p0_rowSize p0_ways p0_hasField p0_fieldSize p0_faultNow p0_hasTree p0_treeSize p0_weightCount p0_roundCount p0_setCount p0_aboveOf p0_come p0_nodes p0_puts p0_stepOf p0_takes post A)) (by decide) rfl rfl (Nat.le_of_ble_eq_true rfl) ?_
  intro p e s m args below meth c A ls E0 hP hD hS hl
  obtain ⟨hx, hb, hr, hml, hown, hts, hlocks, hK, hA, n1, n2⟩ := id E0
  have iX10 : ∀ w ∈ u_ws RX10 TX10 50, w ∈ wsX10_comeTo := fun w h => List.mem_cons_of_mem _ (List.mem_append_right _ h)
  have hS0 := hS
  have hl : lv_has ls 4 [(0, .ref h_p0), (1, .int a1)] := hl
  unfold w_X10_comeTo at hw
  obtain ⟨H, hH⟩ : ∃ H, H = s.heap := ⟨_, rfl⟩
  have hS : va_S A s.heap H [] := by rw [hH]; exact hS
  have hP : va_P (dC, dI) vwCl (wld_X10_comeTo cI cJ cZ h_p0 ad_p0 p0_places p0_steps p0_pastFirst p0_past p0_goings p0_rowSize p0_ways p0_hasField p0_fieldSize p0_faultNow p0_hasTree p0_treeSize p0_weightCount p0_roundCount p0_setCount p0_aboveOf p0_come p0_nodes p0_puts p0_stepOf p0_takes) H := by rw [hH]; exact hP
  suffices hG : W p l e ({ frames := 0, cells := 0, slots := 0, locals := 0 }) s m args below meth c H [] 0 0 (MQ below (q_X10_comeTo dC dI cI cJ cZ h_p0 ad_p0 p0_places p0_steps p0_pastFirst p0_past p0_goings p0_rowSize p0_ways p0_hasField p0_fieldSize p0_faultNow p0_hasTree p0_treeSize p0_weightCount p0_roundCount p0_setCount p0_aboveOf p0_come p0_nodes p0_puts p0_stepOf p0_takes post A) args s 0 0 A) (F0 m 0 ls []) by rw [hH] at hG; exact hG
  clear hH
  refine lv_iconst (v := 0) hx hb dX10_comeTo_0 (by decide) ?_
  refine lv_istore_n (lv' := [(2, .int (0 : Int32)), (0, .ref h_p0), (1, .int a1)]) hx hb dX10_comeTo_1 rfl hl (by decide) rfl (fun ls hl => ?_)
  obtain ⟨n5, hw⟩ := hw
  refine c_X10_comeTo_L2 (l := l) (z_p0_come := p0_come) E0 ?_ n5 _ _ hw _ _ _ hP hD hS (lv_sub hl [1, 2, 0] rfl)
  · intro v6 s7 H locs ls hw hP hD hS hl
    have hP : va_P (dC, dI) vwCl (wld_X10_comeTo cI cJ cZ h_p0 ad_p0 p0_places p0_steps p0_pastFirst p0_past p0_goings p0_rowSize p0_ways p0_hasField p0_fieldSize p0_faultNow p0_hasTree p0_treeSize p0_weightCount p0_roundCount p0_setCount p0_aboveOf s7 p0_nodes p0_puts p0_stepOf p0_takes) H := hP
    have hD : va_D A (wld_X10_comeTo cI cJ cZ h_p0 ad_p0 p0_places p0_steps p0_pastFirst p0_past p0_goings p0_rowSize p0_ways p0_hasField p0_fieldSize p0_faultNow p0_hasTree p0_treeSize p0_weightCount p0_roundCount p0_setCount p0_aboveOf s7 p0_nodes p0_puts p0_stepOf p0_takes) := hD
    exact x_vret (w1 := fun (u : (Nat → Int32)) => (wld_X10_comeTo cI cJ cZ h_p0 ad_p0 p0_places p0_steps p0_pastFirst p0_past p0_goings p0_rowSize p0_ways p0_hasField p0_fieldSize p0_faultNow p0_hasTree p0_treeSize p0_weightCount p0_roundCount p0_setCount p0_aboveOf u p0_nodes p0_puts p0_stepOf p0_takes)) hx hb hr hlocks (s7) hw hP hD hS dX10_comeTo_69
abbrev wld_X10_isLess (cI cJ cZ : ClassId) (h_p0 : Nat) (ad_p0 : Nat → Nat) (p0_places : Int32) (p0_steps : Int32) (p0_pastFirst : Int32) (p0_past : Int32) (p0_goings : Int32) (p0_rowSize : Int32) (p0_ways : Int32) (p0_hasField : Int32) (p0_fieldSize : Int32) (p0_faultNow : Int32) (p0_hasTree : Int32) (p0_treeSize : Int32) (p0_weightCount : Int32) (p0_roundCount : Int32) (p0_setCount : Int32) (p0_come : Nat → Int32) (p0_nodes : Nat → Int32) : va_W := [(h_p0, .inr (10, [.int p0_places, .int p0_steps, .ref (ad_p0 2), .ref (ad_p0 3), .ref (ad_p0 4), .ref (ad_p0 5), .ref (ad_p0 6), .ref (ad_p0 7), .ref (ad_p0 8), .ref (ad_p0 9), .ref (ad_p0 10), .ref (ad_p0 11), .ref (ad_p0 12), .ref (ad_p0 13), .ref (ad_p0 14), .int p0_pastFirst, .int p0_past, .int p0_goings, .int p0_rowSize, .ref (ad_p0 19), .ref (ad_p0 20), .int p0_ways, .ref (ad_p0 22), .ref (ad_p0 23), .int p0_hasField, .int p0_fieldSize, .ref (ad_p0 26), .ref (ad_p0 27), .ref (ad_p0 28), .ref (ad_p0 29), .ref (ad_p0 30), .ref (ad_p0 31), .ref (ad_p0 32), .int p0_faultNow, .int p0_hasTree, .int p0_treeSize, .ref (ad_p0 36), .ref (ad_p0 37), .ref (ad_p0 38), .ref (ad_p0 39), .ref (ad_p0 40), .ref (ad_p0 41), .ref (ad_p0 42), .int p0_weightCount, .ref (ad_p0 44), .int p0_roundCount, .ref (ad_p0 46), .int p0_setCount, .ref (ad_p0 48), .ref (ad_p0 49)])), ((ad_p0 31), .inl (cI, 16, .inl p0_come)), ((ad_p0 36), .inl (cI, 32000, .inl p0_nodes))]
abbrev q_X10_isLess (dC : Nat → ClassId) (dI : Nat → Nat → Nat) (cI cJ cZ : ClassId) (h_p0 : Nat) (ad_p0 : Nat → Nat) (p0_places : Int32) (p0_steps : Int32) (p0_pastFirst : Int32) (p0_past : Int32) (p0_goings : Int32) (p0_rowSize : Int32) (p0_ways : Int32) (p0_hasField : Int32) (p0_fieldSize : Int32) (p0_faultNow : Int32) (p0_hasTree : Int32) (p0_treeSize : Int32) (p0_weightCount : Int32) (p0_roundCount : Int32) (p0_setCount : Int32) (p0_come : Nat → Int32) (p0_nodes : Nat → Int32) (post : Int32 → Prop) (A : Nat → Prop) : Array Value → State → Outcome → State → Prop := va_Qi (fun r (u : Unit) => post r ) (fun (u : Unit) t => xPost (dC, dI) A (wld_X10_isLess cI cJ cZ h_p0 ad_p0 p0_places p0_steps p0_pastFirst p0_past p0_goings p0_rowSize p0_ways p0_hasField p0_fieldSize p0_faultNow p0_hasTree p0_treeSize p0_weightCount p0_roundCount p0_setCount p0_come p0_nodes) t) A
def w_X10_isLess_L7b (v1 : Int32) (p0_places : Int32) (p0_come : Nat → Int32) (p0_nodes : Nat → Int32) (post : Int32 → Prop) (K : (Int32) → (Int32) → (Int32) → Prop) (rec : (Int32) → (Int32) → (Int32) → Prop) (v2 : Int32) (v3 : Int32) (v4 : Int32) : Prop :=
    (p0_places ≤ v4 →
      K v2 v3 v4) ∧
    (¬ p0_places ≤ v4 →
      (v2 = 0 →
        (¬ v3 = 0 →
          ∀ x7 : Int32, x7 = v4 + (1 : Int32) →
          rec (0 : Int32) (1 : Int32) x7) ∧
        (v3 = 0 →
          vp_in (((16 : Int32) * v1) + v4) 32000 ∧
          vp_in v4 16 ∧
          ((p0_come v4.toNatClampNeg) ≤ (p0_nodes (((16 : Int32) * v1) + v4).toNatClampNeg) →
            ∀ x10 : Int32, x10 = v4 + (1 : Int32) →
            rec (0 : Int32) (0 : Int32) x10) ∧
          (¬ (p0_come v4.toNatClampNeg) ≤ (p0_nodes (((16 : Int32) * v1) + v4).toNatClampNeg) →
            ∀ x11 : Int32, x11 = v4 + (1 : Int32) →
            rec (0 : Int32) (1 : Int32) x11))) ∧
      (¬ v2 = 0 →
        vp_in (((16 : Int32) * v1) + v4) 32000 ∧
        vp_in v4 16 ∧
        ((p0_come v4.toNatClampNeg) < (p0_nodes (((16 : Int32) * v1) + v4).toNatClampNeg) →
          (¬ v3 = 0 →
            ∀ x16 : Int32, x16 = v4 + (1 : Int32) →
            rec (0 : Int32) (1 : Int32) x16) ∧
          (v3 = 0 →
            vp_in (((16 : Int32) * v1) + v4) 32000 ∧
            vp_in v4 16 ∧
            ((p0_come v4.toNatClampNeg) ≤ (p0_nodes (((16 : Int32) * v1) + v4).toNatClampNeg) →
              ∀ x19 : Int32, x19 = v4 + (1 : Int32) →
              rec (0 : Int32) (0 : Int32) x19) ∧
            (¬ (p0_come v4.toNatClampNeg) ≤ (p0_nodes (((16 : Int32) * v1) + v4).toNatClampNeg) →
              ∀ x20 : Int32, x20 = v4 + (1 : Int32) →
              rec (0 : Int32) (1 : Int32) x20))) ∧
        (¬ (p0_come v4.toNatClampNeg) < (p0_nodes (((16 : Int32) * v1) + v4).toNatClampNeg) →
          (¬ v3 = 0 →
            ∀ x23 : Int32, x23 = v4 + (1 : Int32) →
            rec (1 : Int32) (1 : Int32) x23) ∧
          (v3 = 0 →
            vp_in (((16 : Int32) * v1) + v4) 32000 ∧
            vp_in v4 16 ∧
            ((p0_come v4.toNatClampNeg) ≤ (p0_nodes (((16 : Int32) * v1) + v4).toNatClampNeg) →
              ∀ x26 : Int32, x26 = v4 + (1 : Int32) →
              rec (1 : Int32) (0 : Int32) x26) ∧
            (¬ (p0_come v4.toNatClampNeg) ≤ (p0_nodes (((16 : Int32) * v1) + v4).toNatClampNeg) →
              ∀ x27 : Int32, x27 = v4 + (1 : Int32) →
              rec (1 : Int32) (1 : Int32) x27)))))
def w_X10_isLess_L7 (v1 : Int32) (p0_places : Int32) (p0_come : Nat → Int32) (p0_nodes : Nat → Int32) (post : Int32 → Prop) (K : (Int32) → (Int32) → (Int32) → Prop) : Nat → (Int32) → (Int32) → (Int32) → Prop
  | 0, _, _, _ => False
  | n + 1, v2, v3, v4 => w_X10_isLess_L7b v1 p0_places p0_come p0_nodes post K (w_X10_isLess_L7 v1 p0_places p0_come p0_nodes post K n) v2 v3 v4
def w_X10_isLess (p0_places : Int32) (p0_come : Nat → Int32) (p0_nodes : Nat → Int32) (a1 : Int32) (post : Int32 → Prop) : Prop :=
  ∃ n : Nat, w_X10_isLess_L7 a1 p0_places p0_come p0_nodes post (fun v29 v30 v31 =>
      (v29 = 0 →
        (post (0 : Int32))) ∧
      (¬ v29 = 0 →
        (v30 = 0 →
          (post (0 : Int32))) ∧
        (¬ v30 = 0 →
          (post (1 : Int32))))) n (1 : Int32) (0 : Int32) (0 : Int32)
set_option maxHeartbeats 4000000 in
set_option maxRecDepth 100000 in
theorem c_X10_isLess_L7 {p : Program} {l : Launch} {e : Env} {s : State} {m : MethodId} {args : Array Value} {below : List Frame} {meth : Method} {c : Code} {dC : Nat → ClassId} {dI : Nat → Nat → Nat} {A : Nat → Prop} {cI cJ cZ : ClassId} {h_p0 : Nat} {ad_p0 : Nat → Nat} {p0_places : Int32} {p0_steps : Int32} {p0_pastFirst : Int32} {p0_past : Int32} {p0_goings : Int32} {p0_rowSize : Int32} {p0_ways : Int32} {p0_hasField : Int32} {p0_fieldSize : Int32} {p0_faultNow : Int32} {p0_hasTree : Int32} {p0_treeSize : Int32} {p0_weightCount : Int32} {p0_roundCount : Int32} {p0_setCount : Int32} {p0_come : Nat → Int32} {p0_nodes : Nat → Int32} {v1 : Int32}  {post : Int32 → Prop} {K : (Int32) → (Int32) → (Int32) → Prop} (E0 : xEnv p s m args meth c cX10_isLess (some .boolean) 5 RX10 wsX10_isLess (dC, dI) cI cJ cZ A) (hk : ∀ (v2 : Int32) (v3 : Int32) (v4 : Int32) (H : Heap) (locs : List Loc) (ls : Array Slot), K v2 v3 v4 → va_P (dC, dI) vwCl (wld_X10_isLess cI cJ cZ h_p0 ad_p0 p0_places p0_steps p0_pastFirst p0_past p0_goings p0_rowSize p0_ways p0_hasField p0_fieldSize p0_faultNow p0_hasTree p0_treeSize p0_weightCount p0_roundCount p0_setCount p0_come p0_nodes) H → va_D A (wld_X10_isLess cI cJ cZ h_p0 ad_p0 p0_places p0_steps p0_pastFirst p0_past p0_goings p0_rowSize p0_ways p0_hasField p0_fieldSize p0_faultNow p0_hasTree p0_treeSize p0_weightCount p0_roundCount p0_setCount p0_come p0_nodes) → va_S A s.heap H locs → lv_has ls 5 [(2, .int v2), (3, .int v3)] → W p l e ({ frames := 0, cells := 0, slots := 0, locals := 0 }) s m args below meth c H locs 0 0 (MQ below (q_X10_isLess dC dI cI cJ cZ h_p0 ad_p0 p0_places p0_steps p0_pastFirst p0_past p0_goings p0_rowSize p0_ways p0_hasField p0_fieldSize p0_faultNow p0_hasTree p0_treeSize p0_weightCount p0_roundCount p0_setCount p0_come p0_nodes post A) args s 0 0 A) (F0 m 86 ls [])) : ∀ (n : Nat) (v2 : Int32) (v3 : Int32) (v4 : Int32), w_X10_isLess_L7 v1 p0_places p0_come p0_nodes post K n v2 v3 v4 → ∀ (H : Heap) (locs : List Loc) (ls : Array Slot), va_P (dC, dI) vwCl (wld_X10_isLess cI cJ cZ h_p0 ad_p0 p0_places p0_steps p0_pastFirst p0_past p0_goings p0_rowSize p0_ways p0_hasField p0_fieldSize p0_faultNow p0_hasTree p0_treeSize p0_weightCount p0_roundCount p0_setCount p0_come p0_nodes) H → va_D A (wld_X10_isLess cI cJ cZ h_p0 ad_p0 p0_places p0_steps p0_pastFirst p0_past p0_goings p0_rowSize p0_ways p0_hasField p0_fieldSize p0_faultNow p0_hasTree p0_treeSize p0_weightCount p0_roundCount p0_setCount p0_come p0_nodes) → va_S A s.heap H locs → lv_has ls 5 [(0, .ref h_p0), (1, .int v1), (2, .int v2), (3, .int v3), (4, .int v4)] → W p l e ({ frames := 0, cells := 0, slots := 0, locals := 0 }) s m args below meth c H locs 0 0 (MQ below (q_X10_isLess dC dI cI cJ cZ h_p0 ad_p0 p0_places p0_steps p0_pastFirst p0_past p0_goings p0_rowSize p0_ways p0_hasField p0_fieldSize p0_faultNow p0_hasTree p0_treeSize p0_weightCount p0_roundCount p0_setCount p0_come p0_nodes post A) args s 0 0 A) (F0 m 7 ls []) := by
  obtain ⟨hx, hb, hr, hml, hown, hts, hlocks, hK, hA, n1, n2⟩ := id E0
  have iX10 : ∀ w ∈ u_ws RX10 TX10 50, w ∈ wsX10_isLess := fun w h => List.mem_cons_of_mem _ (List.mem_append_right _ h)
  intro n
  induction n with
  | zero => intro v2 v3 v4 hw; exact hw.elim
  | succ n ih =>
    intro v2 v3 v4 hw H locs ls hP hD hS hl
    have hw : w_X10_isLess_L7b v1 p0_places p0_come p0_nodes post K (w_X10_isLess_L7 v1 p0_places p0_come p0_nodes post K n) v2 v3 v4 := hw
    unfold w_X10_isLess_L7b at hw
    refine lv_iload hx hb dX10_isLess_7 (lv_at hl 4 rfl) ?_
    refine lv_aload_n hx hb dX10_isLess_9 rfl (lv_at hl 0 rfl) ?_
    refine va_get (D := (dC, dI)) (ci := 10) (v := .int p0_places) (C := RX10) (T := TX10) (N := 50) hx hb hts iX10 hown hK hP 0 rfl rfl 0 (by decide) (hts (.fieldLink RX10 127 "NetHouseModel" "places" "I") (by decide +kernel)) (fun _ h9 => h9) rfl dX10_isLess_10 ?_
    refine lv_icmp_ge (tgt := 86) hx hb dX10_isLess_13 (by decide) (fun c1 => ?_) (fun c2 => ?_)
    · have hw := hw.1 c1
      exact hk _ _ _ _ _ _ hw hP hD hS (lv_sub hl [2, 3] rfl)
    · have hw := hw.2 c2
      refine lv_iload_n hx hb dX10_isLess_16 rfl (lv_at hl 2 rfl) ?_
      refine lv_if_eq (tgt := 46) hx hb dX10_isLess_17 (by decide) (fun c3 => ?_) (fun c4 => ?_)
      · have hw := hw.1 c3
        refine lv_iconst (v := 0) hx hb dX10_isLess_46 (by decide) ?_
        refine lv_istore_n (lv' := [(2, .int (0 : Int32)), (0, .ref h_p0), (1, .int v1), (3, .int v3), (4, .int v4)]) hx hb dX10_isLess_47 rfl hl (by decide) rfl (fun ls hl => ?_)
        refine lv_iload_n hx hb dX10_isLess_48 rfl (lv_at hl 3 rfl) ?_
        refine lv_if_ne (tgt := 74) hx hb dX10_isLess_49 (by decide) (fun c5 => ?_) (fun c6 => ?_)
        · have hw := hw.1 c5
          refine lv_iconst (v := 1) hx hb dX10_isLess_74 (by decide) ?_
          refine lv_goto (tgt := 79) hx hb dX10_isLess_75 (by decide) ?_
          refine lv_istore_n (lv' := [(3, .int (1 : Int32)), (2, .int (0 : Int32)), (0, .ref h_p0), (1, .int v1), (4, .int v4)]) hx hb dX10_isLess_79 rfl hl (by decide) rfl (fun ls hl => ?_)
          obtain ⟨x7, ex7⟩ : ∃ y : Int32, y = v4 + (1 : Int32) := ⟨_, rfl⟩
          have hw := hw x7 ex7
          refine lv_iinc (v := x7) (lv' := [(4, .int x7), (3, .int (1 : Int32)), (2, .int (0 : Int32)), (0, .ref h_p0), (1, .int v1)]) hx hb dX10_isLess_80 hl (k := 4) rfl (by rw [ex7]; rfl) (by decide) rfl (fun ls hl => ?_)
          refine lv_goto (tgt := 7) hx hb dX10_isLess_83 (by decide) ?_
          exact ih _ _ _ hw _ _ _ hP hD hS (lv_sub hl [3, 4, 2, 1, 0] rfl)
        · have hw := hw.2 c6
          refine lv_aload_n hx hb dX10_isLess_52 rfl (lv_at hl 1 rfl) ?_
          refine va_get (D := (dC, dI)) (ci := 10) (v := .ref (ad_p0 36)) (C := RX10) (T := TX10) (N := 50) hx hb hts iX10 hown hK hP 0 rfl rfl 36 (by decide) (hts (.fieldLink RX10 90 "NetHouseModel" "nodes" "[I") (by decide +kernel)) (fun _ h9 => h9) rfl dX10_isLess_53 ?_
          refine lv_bipush (v := 16) hx hb dX10_isLess_56 (by decide) ?_
          refine lv_iload_n hx hb dX10_isLess_58 rfl (lv_at hl 2 rfl) ?_
          refine lv_imul hx hb dX10_isLess_59 ?_
          refine lv_iload hx hb dX10_isLess_60 (lv_at hl 4 rfl) ?_
          refine lv_iadd hx hb dX10_isLess_62 ?_
          refine va_iald hx hb hK hP 2 0 rfl rfl hw.1 dX10_isLess_63 ?_
          have hw := hw.2
          refine lv_aload_n hx hb dX10_isLess_64 rfl (lv_at hl 1 rfl) ?_
          refine va_get (D := (dC, dI)) (ci := 10) (v := .ref (ad_p0 31)) (C := RX10) (T := TX10) (N := 50) hx hb hts iX10 hown hK hP 0 rfl rfl 31 (by decide) (hts (.fieldLink RX10 78 "NetHouseModel" "come" "[I") (by decide +kernel)) (fun _ h9 => h9) rfl dX10_isLess_65 ?_
          refine lv_iload hx hb dX10_isLess_68 (lv_at hl 4 rfl) ?_
          refine va_iald hx hb hK hP 1 0 rfl rfl hw.1 dX10_isLess_70 ?_
          have hw := hw.2
          refine lv_icmp_ge (tgt := 78) hx hb dX10_isLess_71 (by decide) (fun c8 => ?_) (fun c9 => ?_)
          · have hw := hw.1 c8
            refine lv_iconst (v := 0) hx hb dX10_isLess_78 (by decide) ?_
            refine lv_istore_n (lv' := [(3, .int (0 : Int32)), (2, .int (0 : Int32)), (0, .ref h_p0), (1, .int v1), (4, .int v4)]) hx hb dX10_isLess_79 rfl hl (by decide) rfl (fun ls hl => ?_)
            obtain ⟨x10, ex10⟩ : ∃ y : Int32, y = v4 + (1 : Int32) := ⟨_, rfl⟩
            have hw := hw x10 ex10
            refine lv_iinc (v := x10) (lv' := [(4, .int x10), (3, .int (0 : Int32)), (2, .int (0 : Int32)), (0, .ref h_p0), (1, .int v1)]) hx hb dX10_isLess_80 hl (k := 4) rfl (by rw [ex10]; rfl) (by decide) rfl (fun ls hl => ?_)
            refine lv_goto (tgt := 7) hx hb dX10_isLess_83 (by decide) ?_
            exact ih _ _ _ hw _ _ _ hP hD hS (lv_sub hl [3, 4, 2, 1, 0] rfl)
          · have hw := hw.2 c9
            refine lv_iconst (v := 1) hx hb dX10_isLess_74 (by decide) ?_
            refine lv_goto (tgt := 79) hx hb dX10_isLess_75 (by decide) ?_
            refine lv_istore_n (lv' := [(3, .int (1 : Int32)), (2, .int (0 : Int32)), (0, .ref h_p0), (1, .int v1), (4, .int v4)]) hx hb dX10_isLess_79 rfl hl (by decide) rfl (fun ls hl => ?_)
            obtain ⟨x11, ex11⟩ : ∃ y : Int32, y = v4 + (1 : Int32) := ⟨_, rfl⟩
            have hw := hw x11 ex11
            refine lv_iinc (v := x11) (lv' := [(4, .int x11), (3, .int (1 : Int32)), (2, .int (0 : Int32)), (0, .ref h_p0), (1, .int v1)]) hx hb dX10_isLess_80 hl (k := 4) rfl (by rw [ex11]; rfl) (by decide) rfl (fun ls hl => ?_)
            refine lv_goto (tgt := 7) hx hb dX10_isLess_83 (by decide) ?_
            exact ih _ _ _ hw _ _ _ hP hD hS (lv_sub hl [3, 4, 2, 1, 0] rfl)
      · have hw := hw.2 c4
        refine lv_aload_n hx hb dX10_isLess_20 rfl (lv_at hl 0 rfl) ?_
        refine va_get (D := (dC, dI)) (ci := 10) (v := .ref (ad_p0 36)) (C := RX10) (T := TX10) (N := 50) hx hb hts iX10 hown hK hP 0 rfl rfl 36 (by decide) (hts (.fieldLink RX10 90 "NetHouseModel" "nodes" "[I") (by decide +kernel)) (fun _ h9 => h9) rfl dX10_isLess_21 ?_
        refine lv_bipush (v := 16) hx hb dX10_isLess_24 (by decide) ?_
        refine lv_iload_n hx hb dX10_isLess_26 rfl (lv_at hl 1 rfl) ?_
        refine lv_imul hx hb dX10_isLess_27 ?_
        refine lv_iload hx hb dX10_isLess_28 (lv_at hl 4 rfl) ?_
        refine lv_iadd hx hb dX10_isLess_30 ?_
        refine va_iald hx hb hK hP 2 0 rfl rfl hw.1 dX10_isLess_31 ?_
        have hw := hw.2
        refine lv_aload_n hx hb dX10_isLess_32 rfl (lv_at hl 0 rfl) ?_
        refine va_get (D := (dC, dI)) (ci := 10) (v := .ref (ad_p0 31)) (C := RX10) (T := TX10) (N := 50) hx hb hts iX10 hown hK hP 0 rfl rfl 31 (by decide) (hts (.fieldLink RX10 78 "NetHouseModel" "come" "[I") (by decide +kernel)) (fun _ h9 => h9) rfl dX10_isLess_33 ?_
        refine lv_iload hx hb dX10_isLess_36 (lv_at hl 4 rfl) ?_
        refine va_iald hx hb hK hP 1 0 rfl rfl hw.1 dX10_isLess_38 ?_
        have hw := hw.2
        refine lv_icmp_gt (tgt := 46) hx hb dX10_isLess_39 (by decide) (fun c12 => ?_) (fun c13 => ?_)
        · have hw := hw.1 c12
          refine lv_iconst (v := 0) hx hb dX10_isLess_46 (by decide) ?_
          refine lv_istore_n (lv' := [(2, .int (0 : Int32)), (0, .ref h_p0), (1, .int v1), (3, .int v3), (4, .int v4)]) hx hb dX10_isLess_47 rfl hl (by decide) rfl (fun ls hl => ?_)
          refine lv_iload_n hx hb dX10_isLess_48 rfl (lv_at hl 3 rfl) ?_
          refine lv_if_ne (tgt := 74) hx hb dX10_isLess_49 (by decide) (fun c14 => ?_) (fun c15 => ?_)
          · have hw := hw.1 c14
            refine lv_iconst (v := 1) hx hb dX10_isLess_74 (by decide) ?_
            refine lv_goto (tgt := 79) hx hb dX10_isLess_75 (by decide) ?_
            refine lv_istore_n (lv' := [(3, .int (1 : Int32)), (2, .int (0 : Int32)), (0, .ref h_p0), (1, .int v1), (4, .int v4)]) hx hb dX10_isLess_79 rfl hl (by decide) rfl (fun ls hl => ?_)
            obtain ⟨x16, ex16⟩ : ∃ y : Int32, y = v4 + (1 : Int32) := ⟨_, rfl⟩
            have hw := hw x16 ex16
            refine lv_iinc (v := x16) (lv' := [(4, .int x16), (3, .int (1 : Int32)), (2, .int (0 : Int32)), (0, .ref h_p0), (1, .int v1)]) hx hb dX10_isLess_80 hl (k := 4) rfl (by rw [ex16]; rfl) (by decide) rfl (fun ls hl => ?_)
            refine lv_goto (tgt := 7) hx hb dX10_isLess_83 (by decide) ?_
            exact ih _ _ _ hw _ _ _ hP hD hS (lv_sub hl [3, 4, 2, 1, 0] rfl)
          · have hw := hw.2 c15
            refine lv_aload_n hx hb dX10_isLess_52 rfl (lv_at hl 1 rfl) ?_
            refine va_get (D := (dC, dI)) (ci := 10) (v := .ref (ad_p0 36)) (C := RX10) (T := TX10) (N := 50) hx hb hts iX10 hown hK hP 0 rfl rfl 36 (by decide) (hts (.fieldLink RX10 90 "NetHouseModel" "nodes" "[I") (by decide +kernel)) (fun _ h9 => h9) rfl dX10_isLess_53 ?_
            refine lv_bipush (v := 16) hx hb dX10_isLess_56 (by decide) ?_
            refine lv_iload_n hx hb dX10_isLess_58 rfl (lv_at hl 2 rfl) ?_
            refine lv_imul hx hb dX10_isLess_59 ?_
            refine lv_iload hx hb dX10_isLess_60 (lv_at hl 4 rfl) ?_
            refine lv_iadd hx hb dX10_isLess_62 ?_
            refine va_iald hx hb hK hP 2 0 rfl rfl hw.1 dX10_isLess_63 ?_
            have hw := hw.2
            refine lv_aload_n hx hb dX10_isLess_64 rfl (lv_at hl 1 rfl) ?_
            refine va_get (D := (dC, dI)) (ci := 10) (v := .ref (ad_p0 31)) (C := RX10) (T := TX10) (N := 50) hx hb hts iX10 hown hK hP 0 rfl rfl 31 (by decide) (hts (.fieldLink RX10 78 "NetHouseModel" "come" "[I") (by decide +kernel)) (fun _ h9 => h9) rfl dX10_isLess_65 ?_
            refine lv_iload hx hb dX10_isLess_68 (lv_at hl 4 rfl) ?_
            refine va_iald hx hb hK hP 1 0 rfl rfl hw.1 dX10_isLess_70 ?_
            have hw := hw.2
            refine lv_icmp_ge (tgt := 78) hx hb dX10_isLess_71 (by decide) (fun c17 => ?_) (fun c18 => ?_)
            · have hw := hw.1 c17
              refine lv_iconst (v := 0) hx hb dX10_isLess_78 (by decide) ?_
              refine lv_istore_n (lv' := [(3, .int (0 : Int32)), (2, .int (0 : Int32)), (0, .ref h_p0), (1, .int v1), (4, .int v4)]) hx hb dX10_isLess_79 rfl hl (by decide) rfl (fun ls hl => ?_)
              obtain ⟨x19, ex19⟩ : ∃ y : Int32, y = v4 + (1 : Int32) := ⟨_, rfl⟩
              have hw := hw x19 ex19
              refine lv_iinc (v := x19) (lv' := [(4, .int x19), (3, .int (0 : Int32)), (2, .int (0 : Int32)), (0, .ref h_p0), (1, .int v1)]) hx hb dX10_isLess_80 hl (k := 4) rfl (by rw [ex19]; rfl) (by decide) rfl (fun ls hl => ?_)
              refine lv_goto (tgt := 7) hx hb dX10_isLess_83 (by decide) ?_
              exact ih _ _ _ hw _ _ _ hP hD hS (lv_sub hl [3, 4, 2, 1, 0] rfl)
            · have hw := hw.2 c18
              refine lv_iconst (v := 1) hx hb dX10_isLess_74 (by decide) ?_
              refine lv_goto (tgt := 79) hx hb dX10_isLess_75 (by decide) ?_
              refine lv_istore_n (lv' := [(3, .int (1 : Int32)), (2, .int (0 : Int32)), (0, .ref h_p0), (1, .int v1), (4, .int v4)]) hx hb dX10_isLess_79 rfl hl (by decide) rfl (fun ls hl => ?_)
              obtain ⟨x20, ex20⟩ : ∃ y : Int32, y = v4 + (1 : Int32) := ⟨_, rfl⟩
              have hw := hw x20 ex20
              refine lv_iinc (v := x20) (lv' := [(4, .int x20), (3, .int (1 : Int32)), (2, .int (0 : Int32)), (0, .ref h_p0), (1, .int v1)]) hx hb dX10_isLess_80 hl (k := 4) rfl (by rw [ex20]; rfl) (by decide) rfl (fun ls hl => ?_)
              refine lv_goto (tgt := 7) hx hb dX10_isLess_83 (by decide) ?_
              exact ih _ _ _ hw _ _ _ hP hD hS (lv_sub hl [3, 4, 2, 1, 0] rfl)
        · have hw := hw.2 c13
          refine lv_iconst (v := 1) hx hb dX10_isLess_42 (by decide) ?_
          refine lv_goto (tgt := 47) hx hb dX10_isLess_43 (by decide) ?_
          refine lv_istore_n (lv' := [(2, .int (1 : Int32)), (0, .ref h_p0), (1, .int v1), (3, .int v3), (4, .int v4)]) hx hb dX10_isLess_47 rfl hl (by decide) rfl (fun ls hl => ?_)
          refine lv_iload_n hx hb dX10_isLess_48 rfl (lv_at hl 3 rfl) ?_
          refine lv_if_ne (tgt := 74) hx hb dX10_isLess_49 (by decide) (fun c21 => ?_) (fun c22 => ?_)
          · have hw := hw.1 c21
            refine lv_iconst (v := 1) hx hb dX10_isLess_74 (by decide) ?_
            refine lv_goto (tgt := 79) hx hb dX10_isLess_75 (by decide) ?_
            refine lv_istore_n (lv' := [(3, .int (1 : Int32)), (2, .int (1 : Int32)), (0, .ref h_p0), (1, .int v1), (4, .int v4)]) hx hb dX10_isLess_79 rfl hl (by decide) rfl (fun ls hl => ?_)
            obtain ⟨x23, ex23⟩ : ∃ y : Int32, y = v4 + (1 : Int32) := ⟨_, rfl⟩
            have hw := hw x23 ex23
            refine lv_iinc (v := x23) (lv' := [(4, .int x23), (3, .int (1 : Int32)), (2, .int (1 : Int32)), (0, .ref h_p0), (1, .int v1)]) hx hb dX10_isLess_80 hl (k := 4) rfl (by rw [ex23]; rfl) (by decide) rfl (fun ls hl => ?_)
            refine lv_goto (tgt := 7) hx hb dX10_isLess_83 (by decide) ?_
            exact ih _ _ _ hw _ _ _ hP hD hS (lv_sub hl [3, 4, 2, 1, 0] rfl)
          · have hw := hw.2 c22
            refine lv_aload_n hx hb dX10_isLess_52 rfl (lv_at hl 1 rfl) ?_
            refine va_get (D := (dC, dI)) (ci := 10) (v := .ref (ad_p0 36)) (C := RX10) (T := TX10) (N := 50) hx hb hts iX10 hown hK hP 0 rfl rfl 36 (by decide) (hts (.fieldLink RX10 90 "NetHouseModel" "nodes" "[I") (by decide +kernel)) (fun _ h9 => h9) rfl dX10_isLess_53 ?_
            refine lv_bipush (v := 16) hx hb dX10_isLess_56 (by decide) ?_
            refine lv_iload_n hx hb dX10_isLess_58 rfl (lv_at hl 2 rfl) ?_
            refine lv_imul hx hb dX10_isLess_59 ?_
            refine lv_iload hx hb dX10_isLess_60 (lv_at hl 4 rfl) ?_
            refine lv_iadd hx hb dX10_isLess_62 ?_
            refine va_iald hx hb hK hP 2 0 rfl rfl hw.1 dX10_isLess_63 ?_
            have hw := hw.2
            refine lv_aload_n hx hb dX10_isLess_64 rfl (lv_at hl 1 rfl) ?_
            refine va_get (D := (dC, dI)) (ci := 10) (v := .ref (ad_p0 31)) (C := RX10) (T := TX10) (N := 50) hx hb hts iX10 hown hK hP 0 rfl rfl 31 (by decide) (hts (.fieldLink RX10 78 "NetHouseModel" "come" "[I") (by decide +kernel)) (fun _ h9 => h9) rfl dX10_isLess_65 ?_
            refine lv_iload hx hb dX10_isLess_68 (lv_at hl 4 rfl) ?_
            refine va_iald hx hb hK hP 1 0 rfl rfl hw.1 dX10_isLess_70 ?_
            have hw := hw.2
            refine lv_icmp_ge (tgt := 78) hx hb dX10_isLess_71 (by decide) (fun c24 => ?_) (fun c25 => ?_)
            · have hw := hw.1 c24
              refine lv_iconst (v := 0) hx hb dX10_isLess_78 (by decide) ?_
              refine lv_istore_n (lv' := [(3, .int (0 : Int32)), (2, .int (1 : Int32)), (0, .ref h_p0), (1, .int v1), (4, .int v4)]) hx hb dX10_isLess_79 rfl hl (by decide) rfl (fun ls hl => ?_)
              obtain ⟨x26, ex26⟩ : ∃ y : Int32, y = v4 + (1 : Int32) := ⟨_, rfl⟩
              have hw := hw x26 ex26
              refine lv_iinc (v := x26) (lv' := [(4, .int x26), (3, .int (0 : Int32)), (2, .int (1 : Int32)), (0, .ref h_p0), (1, .int v1)]) hx hb dX10_isLess_80 hl (k := 4) rfl (by rw [ex26]; rfl) (by decide) rfl (fun ls hl => ?_)
              refine lv_goto (tgt := 7) hx hb dX10_isLess_83 (by decide) ?_
              exact ih _ _ _ hw _ _ _ hP hD hS (lv_sub hl [3, 4, 2, 1, 0] rfl)
            · have hw := hw.2 c25
              refine lv_iconst (v := 1) hx hb dX10_isLess_74 (by decide) ?_
              refine lv_goto (tgt := 79) hx hb dX10_isLess_75 (by decide) ?_
              refine lv_istore_n (lv' := [(3, .int (1 : Int32)), (2, .int (1 : Int32)), (0, .ref h_p0), (1, .int v1), (4, .int v4)]) hx hb dX10_isLess_79 rfl hl (by decide) rfl (fun ls hl => ?_)
              obtain ⟨x27, ex27⟩ : ∃ y : Int32, y = v4 + (1 : Int32) := ⟨_, rfl⟩
              have hw := hw x27 ex27
              refine lv_iinc (v := x27) (lv' := [(4, .int x27), (3, .int (1 : Int32)), (2, .int (1 : Int32)), (0, .ref h_p0), (1, .int v1)]) hx hb dX10_isLess_80 hl (k := 4) rfl (by rw [ex27]; rfl) (by decide) rfl (fun ls hl => ?_)
              refine lv_goto (tgt := 7) hx hb dX10_isLess_83 (by decide) ?_
              exact ih _ _ _ hw _ _ _ hP hD hS (lv_sub hl [3, 4, 2, 1, 0] rfl)
set_option maxHeartbeats 4000000 in
set_option maxRecDepth 100000 in
theorem c_X10_isLess {l : Launch} {dC : Nat → ClassId} {dI : Nat → Nat → Nat} {sz : Nat} {cI cJ cZ : ClassId} {h_p0 : Nat} {ad_p0 : Nat → Nat} {p0_places : Int32} {p0_steps : Int32} {p0_pastFirst : Int32} {p0_past : Int32} {p0_goings : Int32} {p0_rowSize : Int32} {p0_ways : Int32} {p0_hasField : Int32} {p0_fieldSize : Int32} {p0_faultNow : Int32} {p0_hasTree : Int32} {p0_treeSize : Int32} {p0_weightCount : Int32} {p0_roundCount : Int32} {p0_setCount : Int32} {p0_come : Nat → Int32} {p0_nodes : Nat → Int32} {a1 : Int32} {post : Int32 → Prop} (hw : w_X10_isLess p0_places p0_come p0_nodes a1 post) : Met l yX10_isLess wsX10_isLess ({ frames := 0, cells := 0, slots := 0, locals := 0 }) (va_Pc [.ref h_p0, .int a1] (xPre (dC, dI) cI cJ cZ (wld_X10_isLess cI cJ cZ h_p0 ad_p0 p0_places p0_steps p0_pastFirst p0_past p0_goings p0_rowSize p0_ways p0_hasField p0_fieldSize p0_faultNow p0_hasTree p0_treeSize p0_weightCount p0_roundCount p0_setCount p0_come p0_nodes) sz)) (q_X10_isLess dC dI cI cJ cZ h_p0 ad_p0 p0_places p0_steps p0_pastFirst p0_past p0_goings p0_rowSize p0_ways p0_hasField p0_fieldSize p0_faultNow p0_hasTree p0_treeSize p0_weightCount p0_roundCount p0_setCount p0_come p0_nodes post (va_A (wld_X10_isLess cI cJ cZ h_p0 ad_p0 p0_places p0_steps p0_pastFirst p0_past p0_goings p0_rowSize p0_ways p0_hasField p0_fieldSize p0_faultNow p0_hasTree p0_treeSize p0_weightCount p0_roundCount p0_setCount p0_come p0_nodes) sz)) 0 0 (va_A (wld_X10_isLess cI cJ cZ h_p0 ad_p0 p0_places p0_steps p0_pastFirst p0_past p0_goings p0_rowSize p0_ways p0_hasField p0_fieldSize p0_faultNow p0_hasTree p0_treeSize p0_weightCount p0_roundCount p0_setCount p0_come p0_nodes) sz) := by
  refine x_met (cc := cX10_isLess) (maxL := 5) (ret := (some .boolean)) (own := RX10) (Qc := fun A => (q_X10_isLess dC dI cI cJ cZ h_p0 ad_p0 p0_places p0_steps p0_pastFirst p0_past p0_goings p0_rowSize p0_ways p0_hasField p0_fieldSize p0_faultNow p0_hasTree p0_treeSize p0_weightCount p0_roundCount p0_setCount p0_come p0_nodes post A)) (by decide) rfl rfl (Nat.le_of_ble_eq_true rfl) ?_
  intro p e s m args below meth c A ls E0 hP hD hS hl
  obtain ⟨hx, hb, hr, hml, hown, hts, hlocks, hK, hA, n1, n2⟩ := id E0
  have iX10 : ∀ w ∈ u_ws RX10 TX10 50, w ∈ wsX10_isLess := fun w h => List.mem_cons_of_mem _ (List.mem_append_right _ h)
  have hS0 := hS
  have hl : lv_has ls 5 [(0, .ref h_p0), (1, .int a1)] := hl
  unfold w_X10_isLess at hw
  obtain ⟨H, hH⟩ : ∃ H, H = s.heap := ⟨_, rfl⟩
  have hS : va_S A s.heap H [] := by rw [hH]; exact hS
  have hP : va_P (dC, dI) vwCl (wld_X10_isLess cI cJ cZ h_p0 ad_p0 p0_places p0_steps p0_pastFirst p0_past p0_goings p0_rowSize p0_ways p0_hasField p0_fieldSize p0_faultNow p0_hasTree p0_treeSize p0_weightCount p0_roundCount p0_setCount p0_come p0_nodes) H := by rw [hH]; exact hP
  suffices hG : W p l e ({ frames := 0, cells := 0, slots := 0, locals := 0 }) s m args below meth c H [] 0 0 (MQ below (q_X10_isLess dC dI cI cJ cZ h_p0 ad_p0 p0_places p0_steps p0_pastFirst p0_past p0_goings p0_rowSize p0_ways p0_hasField p0_fieldSize p0_faultNow p0_hasTree p0_treeSize p0_weightCount p0_roundCount p0_setCount p0_come p0_nodes post A) args s 0 0 A) (F0 m 0 ls []) by rw [hH] at hG; exact hG
  clear hH
  refine lv_iconst (v := 1) hx hb dX10_isLess_0 (by decide) ?_
  refine lv_istore_n (lv' := [(2, .int (1 : Int32)), (0, .ref h_p0), (1, .int a1)]) hx hb dX10_isLess_1 rfl hl (by decide) rfl (fun ls hl => ?_)
  refine lv_iconst (v := 0) hx hb dX10_isLess_2 (by decide) ?_
  refine lv_istore_n (lv' := [(3, .int (0 : Int32)), (2, .int (1 : Int32)), (0, .ref h_p0), (1, .int a1)]) hx hb dX10_isLess_3 rfl hl (by decide) rfl (fun ls hl => ?_)
  refine lv_iconst (v := 0) hx hb dX10_isLess_4 (by decide) ?_
  refine lv_istore (lv' := [(4, .int (0 : Int32)), (3, .int (0 : Int32)), (2, .int (1 : Int32)), (0, .ref h_p0), (1, .int a1)]) hx hb dX10_isLess_5 hl (by decide) rfl (fun ls hl => ?_)
  obtain ⟨n28, hw⟩ := hw
  refine c_X10_isLess_L7 (l := l)  E0 ?_ n28 _ _ _ hw _ _ _ hP hD hS (lv_sub hl [3, 4, 2, 1, 0] rfl)
  · intro v29 v30 v31 H locs ls hw hP hD hS hl
    have hP : va_P (dC, dI) vwCl (wld_X10_isLess cI cJ cZ h_p0 ad_p0 p0_places p0_steps p0_pastFirst p0_past p0_goings p0_rowSize p0_ways p0_hasField p0_fieldSize p0_faultNow p0_hasTree p0_treeSize p0_weightCount p0_roundCount p0_setCount p0_come p0_nodes) H := hP
    have hD : va_D A (wld_X10_isLess cI cJ cZ h_p0 ad_p0 p0_places p0_steps p0_pastFirst p0_past p0_goings p0_rowSize p0_ways p0_hasField p0_fieldSize p0_faultNow p0_hasTree p0_treeSize p0_weightCount p0_roundCount p0_setCount p0_come p0_nodes) := hD
    refine lv_iload_n hx hb dX10_isLess_86 rfl (lv_at hl 0 rfl) ?_
    refine lv_if_eq (tgt := 98) hx hb dX10_isLess_87 (by decide) (fun c32 => ?_) (fun c33 => ?_)
    · have hw := hw.1 c32
      refine lv_iconst (v := 0) hx hb dX10_isLess_98 (by decide) ?_
      exact x_zret (w1 := fun (u : Unit) => (wld_X10_isLess cI cJ cZ h_p0 ad_p0 p0_places p0_steps p0_pastFirst p0_past p0_goings p0_rowSize p0_ways p0_hasField p0_fieldSize p0_faultNow p0_hasTree p0_treeSize p0_weightCount p0_roundCount p0_setCount p0_come p0_nodes)) hx hb hr hlocks (by decide) () hw hP hD hS dX10_isLess_99
    · have hw := hw.2 c33
      refine lv_iload_n hx hb dX10_isLess_90 rfl (lv_at hl 1 rfl) ?_
      refine lv_if_eq (tgt := 98) hx hb dX10_isLess_91 (by decide) (fun c34 => ?_) (fun c35 => ?_)
      · have hw := hw.1 c34
        refine lv_iconst (v := 0) hx hb dX10_isLess_98 (by decide) ?_
        exact x_zret (w1 := fun (u : Unit) => (wld_X10_isLess cI cJ cZ h_p0 ad_p0 p0_places p0_steps p0_pastFirst p0_past p0_goings p0_rowSize p0_ways p0_hasField p0_fieldSize p0_faultNow p0_hasTree p0_treeSize p0_weightCount p0_roundCount p0_setCount p0_come p0_nodes)) hx hb hr hlocks (by decide) () hw hP hD hS dX10_isLess_99
      · have hw := hw.2 c35
        refine lv_iconst (v := 1) hx hb dX10_isLess_94 (by decide) ?_
        refine lv_goto (tgt := 99) hx hb dX10_isLess_95 (by decide) ?_
        exact x_zret (w1 := fun (u : Unit) => (wld_X10_isLess cI cJ cZ h_p0 ad_p0 p0_places p0_steps p0_pastFirst p0_past p0_goings p0_rowSize p0_ways p0_hasField p0_fieldSize p0_faultNow p0_hasTree p0_treeSize p0_weightCount p0_roundCount p0_setCount p0_come p0_nodes)) hx hb hr hlocks (by decide) () hw hP hD hS dX10_isLess_99
abbrev wld_X10_pump (cI cJ cZ : ClassId) (h_p0 : Nat) (ad_p0 : Nat → Nat) (p0_places : Int32) (p0_steps : Int32) (p0_pastFirst : Int32) (p0_past : Int32) (p0_goings : Int32) (p0_rowSize : Int32) (p0_ways : Int32) (p0_hasField : Int32) (p0_fieldSize : Int32) (p0_faultNow : Int32) (p0_hasTree : Int32) (p0_treeSize : Int32) (p0_weightCount : Int32) (p0_roundCount : Int32) (p0_setCount : Int32) (p0_aboveOf : Nat → Int32) (p0_come : Nat → Int32) (p0_nodes : Nat → Int32) (p0_puts : Nat → Int32) (p0_stepOf : Nat → Int32) (p0_takes : Nat → Int32) (p0_way : Nat → Int32) : va_W := [(h_p0, .inr (10, [.int p0_places, .int p0_steps, .ref (ad_p0 2), .ref (ad_p0 3), .ref (ad_p0 4), .ref (ad_p0 5), .ref (ad_p0 6), .ref (ad_p0 7), .ref (ad_p0 8), .ref (ad_p0 9), .ref (ad_p0 10), .ref (ad_p0 11), .ref (ad_p0 12), .ref (ad_p0 13), .ref (ad_p0 14), .int p0_pastFirst, .int p0_past, .int p0_goings, .int p0_rowSize, .ref (ad_p0 19), .ref (ad_p0 20), .int p0_ways, .ref (ad_p0 22), .ref (ad_p0 23), .int p0_hasField, .int p0_fieldSize, .ref (ad_p0 26), .ref (ad_p0 27), .ref (ad_p0 28), .ref (ad_p0 29), .ref (ad_p0 30), .ref (ad_p0 31), .ref (ad_p0 32), .int p0_faultNow, .int p0_hasTree, .int p0_treeSize, .ref (ad_p0 36), .ref (ad_p0 37), .ref (ad_p0 38), .ref (ad_p0 39), .ref (ad_p0 40), .ref (ad_p0 41), .ref (ad_p0 42), .int p0_weightCount, .ref (ad_p0 44), .int p0_roundCount, .ref (ad_p0 46), .int p0_setCount, .ref (ad_p0 48), .ref (ad_p0 49)])), ((ad_p0 37), .inl (cI, 2000, .inl p0_aboveOf)), ((ad_p0 31), .inl (cI, 16, .inl p0_come)), ((ad_p0 36), .inl (cI, 32000, .inl p0_nodes)), ((ad_p0 5), .inl (cI, 256, .inl p0_puts)), ((ad_p0 38), .inl (cI, 2000, .inl p0_stepOf)), ((ad_p0 4), .inl (cI, 256, .inl p0_takes)), ((ad_p0 22), .inl (cI, 8000, .inl p0_way))]
abbrev q_X10_pump (dC : Nat → ClassId) (dI : Nat → Nat → Nat) (cI cJ cZ : ClassId) (h_p0 : Nat) (ad_p0 : Nat → Nat) (p0_places : Int32) (p0_steps : Int32) (p0_pastFirst : Int32) (p0_past : Int32) (p0_goings : Int32) (p0_rowSize : Int32) (p0_ways : Int32) (p0_hasField : Int32) (p0_fieldSize : Int32) (p0_faultNow : Int32) (p0_hasTree : Int32) (p0_treeSize : Int32) (p0_weightCount : Int32) (p0_roundCount : Int32) (p0_setCount : Int32) (p0_aboveOf : Nat → Int32) (p0_come : Nat → Int32) (p0_nodes : Nat → Int32) (p0_puts : Nat → Int32) (p0_stepOf : Nat → Int32) (p0_takes : Nat → Int32) (p0_way : Nat → Int32) (post : Int32 → (Int32) → (Nat → Int32) → (Nat → Int32) → Prop) (A : Nat → Prop) : Array Value → State → Outcome → State → Prop := va_Qi (fun r (u : (Int32) × (Nat → Int32) × (Nat → Int32)) => post r (u.1) (u.2.1) (u.2.2)) (fun (u : (Int32) × (Nat → Int32) × (Nat → Int32)) t => xPost (dC, dI) A (wld_X10_pump cI cJ cZ h_p0 ad_p0 p0_places p0_steps p0_pastFirst p0_past p0_goings p0_rowSize (u.1) p0_hasField p0_fieldSize p0_faultNow p0_hasTree p0_treeSize p0_weightCount p0_roundCount p0_setCount p0_aboveOf (u.2.1) p0_nodes p0_puts p0_stepOf p0_takes (u.2.2)) t) A
def w_X10_pump_L37b (v1 : Int32) (p0_hasTree : Int32) (p0_places : Int32) (p0_treeSize : Int32) (p0_ways : Int32) (p0_aboveOf : Nat → Int32) (p0_come : Nat → Int32) (p0_nodes : Nat → Int32) (p0_puts : Nat → Int32) (p0_stepOf : Nat → Int32) (p0_takes : Nat → Int32) (post : Int32 → (Int32) → (Nat → Int32) → (Nat → Int32) → Prop) (K : (Int32) → (Int32) → (Nat → Int32) → Prop) (rec : (Int32) → (Int32) → (Nat → Int32) → Prop) (v2 : Int32) (v3 : Int32) (p0_way : Nat → Int32) : Prop :=
    vp_in v3 2000 ∧
    ((p0_aboveOf v3.toNatClampNeg) = (-2000000005 : Int32) →
      K v2 v3 p0_way) ∧
    (¬ (p0_aboveOf v3.toNatClampNeg) = (-2000000005 : Int32) →
      ∀ x9 : Int32, x9 = v2 + (-1 : Int32) →
      vp_in v3 2000 ∧
      vp_in x9 8000 ∧
      vp_in v3 2000 ∧
      ∀ x10 : Int32, x10 = (p0_aboveOf v3.toNatClampNeg) →
      rec x9 x10 (upd p0_way x9.toNatClampNeg (p0_stepOf v3.toNatClampNeg)))
def w_X10_pump_L37 (v1 : Int32) (p0_hasTree : Int32) (p0_places : Int32) (p0_treeSize : Int32) (p0_ways : Int32) (p0_aboveOf : Nat → Int32) (p0_come : Nat → Int32) (p0_nodes : Nat → Int32) (p0_puts : Nat → Int32) (p0_stepOf : Nat → Int32) (p0_takes : Nat → Int32) (post : Int32 → (Int32) → (Nat → Int32) → (Nat → Int32) → Prop) (K : (Int32) → (Int32) → (Nat → Int32) → Prop) : Nat → (Int32) → (Int32) → (Nat → Int32) → Prop
  | 0, _, _, _ => False
  | n + 1, v2, v3, p0_way => w_X10_pump_L37b v1 p0_hasTree p0_places p0_treeSize p0_ways p0_aboveOf p0_come p0_nodes p0_puts p0_stepOf p0_takes post K (w_X10_pump_L37 v1 p0_hasTree p0_places p0_treeSize p0_ways p0_aboveOf p0_come p0_nodes p0_puts p0_stepOf p0_takes post K n) v2 v3 p0_way
def w_X10_pump_L85b (p0_hasTree : Int32) (p0_places : Int32) (p0_treeSize : Int32) (p0_ways : Int32) (p0_aboveOf : Nat → Int32) (p0_come : Nat → Int32) (p0_nodes : Nat → Int32) (p0_puts : Nat → Int32) (p0_stepOf : Nat → Int32) (p0_takes : Nat → Int32) (p0_way : Nat → Int32) (post : Int32 → (Int32) → (Nat → Int32) → (Nat → Int32) → Prop) (K : (Int32) → Prop) (rec : (Int32) → Prop) (v3 : Int32) : Prop :=
    w_X10_isLess p0_places p0_come p0_nodes v3 (fun r17 =>
    (¬ r17 = 0 →
      K v3) ∧
    (r17 = 0 →
      vp_in v3 2000 ∧
      ∀ x20 : Int32, x20 = (p0_aboveOf v3.toNatClampNeg) →
      rec x20))
def w_X10_pump_L85 (p0_hasTree : Int32) (p0_places : Int32) (p0_treeSize : Int32) (p0_ways : Int32) (p0_aboveOf : Nat → Int32) (p0_come : Nat → Int32) (p0_nodes : Nat → Int32) (p0_puts : Nat → Int32) (p0_stepOf : Nat → Int32) (p0_takes : Nat → Int32) (p0_way : Nat → Int32) (post : Int32 → (Int32) → (Nat → Int32) → (Nat → Int32) → Prop) (K : (Int32) → Prop) : Nat → (Int32) → Prop
  | 0, _ => False
  | n + 1, v3 => w_X10_pump_L85b p0_hasTree p0_places p0_treeSize p0_ways p0_aboveOf p0_come p0_nodes p0_puts p0_stepOf p0_takes p0_way post K (w_X10_pump_L85 p0_hasTree p0_places p0_treeSize p0_ways p0_aboveOf p0_come p0_nodes p0_puts p0_stepOf p0_takes p0_way post K n) v3
def w_X10_pump (p0_hasTree : Int32) (p0_places : Int32) (p0_treeSize : Int32) (p0_ways : Int32) (p0_aboveOf : Nat → Int32) (p0_come : Nat → Int32) (p0_nodes : Nat → Int32) (p0_puts : Nat → Int32) (p0_stepOf : Nat → Int32) (p0_takes : Nat → Int32) (p0_way : Nat → Int32) (post : Int32 → (Int32) → (Nat → Int32) → (Nat → Int32) → Prop) : Prop :=
  (¬ p0_hasTree = 0 →
    w_X10_leastEndless p0_places p0_treeSize p0_nodes (fun r3 =>
    (¬ r3 = (-2000000005 : Int32) →
      w_X10_depthOf p0_aboveOf r3 (fun r6 =>
      ∃ n : Nat, w_X10_pump_L37 r3 p0_hasTree p0_places p0_treeSize r6 p0_aboveOf p0_come p0_nodes p0_puts p0_stepOf p0_takes post (fun v12 v13 s14 =>
          w_X10_comeTo p0_places p0_aboveOf p0_come p0_nodes p0_puts p0_stepOf p0_takes r3 (fun y15 =>
          vp_in r3 2000 ∧
          ∀ x16 : Int32, x16 = (p0_aboveOf r3.toNatClampNeg) →
          ∃ n : Nat, w_X10_pump_L85 p0_hasTree p0_places p0_treeSize r6 p0_aboveOf y15 p0_nodes p0_puts p0_stepOf p0_takes s14 post (fun v22 =>
              w_X10_depthOf p0_aboveOf v22 (fun r23 =>
              (post r23 r6 y15 s14))) n x16)) n r6 r3 p0_way)) ∧
    (r3 = (-2000000005 : Int32) →
      (post (-2000000005 : Int32) p0_ways p0_come p0_way)))) ∧
  (p0_hasTree = 0 →
    (post (-2000000002 : Int32) p0_ways p0_come p0_way))
set_option maxHeartbeats 4000000 in
set_option maxRecDepth 100000 in
theorem c_X10_pump_L37 {p : Program} {l : Launch} {e : Env} {s : State} {m : MethodId} {args : Array Value} {below : List Frame} {meth : Method} {c : Code} {dC : Nat → ClassId} {dI : Nat → Nat → Nat} {A : Nat → Prop} {cI cJ cZ : ClassId} {h_p0 : Nat} {ad_p0 : Nat → Nat} {p0_places : Int32} {p0_steps : Int32} {p0_pastFirst : Int32} {p0_past : Int32} {p0_goings : Int32} {p0_rowSize : Int32} {p0_ways : Int32} {p0_hasField : Int32} {p0_fieldSize : Int32} {p0_faultNow : Int32} {p0_hasTree : Int32} {p0_treeSize : Int32} {p0_weightCount : Int32} {p0_roundCount : Int32} {p0_setCount : Int32} {p0_aboveOf : Nat → Int32} {p0_come : Nat → Int32} {p0_nodes : Nat → Int32} {p0_puts : Nat → Int32} {p0_stepOf : Nat → Int32} {p0_takes : Nat → Int32} {v1 : Int32} {z_p0_way : Nat → Int32} {post : Int32 → (Int32) → (Nat → Int32) → (Nat → Int32) → Prop} {K : (Int32) → (Int32) → (Nat → Int32) → Prop} (E0 : xEnv p s m args meth c cX10_pump (some .int) 4 RX10 wsX10_pump (dC, dI) cI cJ cZ A) (hk : ∀ (v2 : Int32) (v3 : Int32) (p0_way : Nat → Int32) (H : Heap) (locs : List Loc) (ls : Array Slot), K v2 v3 p0_way → va_P (dC, dI) vwCl (wld_X10_pump cI cJ cZ h_p0 ad_p0 p0_places p0_steps p0_pastFirst p0_past p0_goings p0_rowSize p0_ways p0_hasField p0_fieldSize p0_faultNow p0_hasTree p0_treeSize p0_weightCount p0_roundCount p0_setCount p0_aboveOf p0_come p0_nodes p0_puts p0_stepOf p0_takes p0_way) H → va_D A (wld_X10_pump cI cJ cZ h_p0 ad_p0 p0_places p0_steps p0_pastFirst p0_past p0_goings p0_rowSize p0_ways p0_hasField p0_fieldSize p0_faultNow p0_hasTree p0_treeSize p0_weightCount p0_roundCount p0_setCount p0_aboveOf p0_come p0_nodes p0_puts p0_stepOf p0_takes p0_way) → va_S A s.heap H locs → lv_has ls 4 [(0, .ref h_p0), (1, .int v1)] → W p l e ({ frames := 1, cells := 0, slots := 0, locals := 24 }) s m args below meth c H locs 0 0 (MQ below (q_X10_pump dC dI cI cJ cZ h_p0 ad_p0 p0_places p0_steps p0_pastFirst p0_past p0_goings p0_rowSize p0_ways p0_hasField p0_fieldSize p0_faultNow p0_hasTree p0_treeSize p0_weightCount p0_roundCount p0_setCount p0_aboveOf p0_come p0_nodes p0_puts p0_stepOf p0_takes z_p0_way post A) args s 0 0 A) (F0 m 73 ls [])) : ∀ (n : Nat) (v2 : Int32) (v3 : Int32) (p0_way : Nat → Int32), w_X10_pump_L37 v1 p0_hasTree p0_places p0_treeSize p0_ways p0_aboveOf p0_come p0_nodes p0_puts p0_stepOf p0_takes post K n v2 v3 p0_way → ∀ (H : Heap) (locs : List Loc) (ls : Array Slot), va_P (dC, dI) vwCl (wld_X10_pump cI cJ cZ h_p0 ad_p0 p0_places p0_steps p0_pastFirst p0_past p0_goings p0_rowSize p0_ways p0_hasField p0_fieldSize p0_faultNow p0_hasTree p0_treeSize p0_weightCount p0_roundCount p0_setCount p0_aboveOf p0_come p0_nodes p0_puts p0_stepOf p0_takes p0_way) H → va_D A (wld_X10_pump cI cJ cZ h_p0 ad_p0 p0_places p0_steps p0_pastFirst p0_past p0_goings p0_rowSize p0_ways p0_hasField p0_fieldSize p0_faultNow p0_hasTree p0_treeSize p0_weightCount p0_roundCount p0_setCount p0_aboveOf p0_come p0_nodes p0_puts p0_stepOf p0_takes p0_way) → va_S A s.heap H locs → lv_has ls 4 [(0, .ref h_p0), (1, .int v1), (2, .int v2), (3, .int v3)] → W p l e ({ frames := 1, cells := 0, slots := 0, locals := 24 }) s m args below meth c H locs 0 0 (MQ below (q_X10_pump dC dI cI cJ cZ h_p0 ad_p0 p0_places p0_steps p0_pastFirst p0_past p0_goings p0_rowSize p0_ways p0_hasField p0_fieldSize p0_faultNow p0_hasTree p0_treeSize p0_weightCount p0_roundCount p0_setCount p0_aboveOf p0_come p0_nodes p0_puts p0_stepOf p0_takes z_p0_way post A) args s 0 0 A) (F0 m 37 ls []) := by
  obtain ⟨hx, hb, hr, hml, hown, hts, hlocks, hK, hA, n1, n2⟩ := id E0
  have iX10 : ∀ w ∈ u_ws RX10 TX10 50, w ∈ wsX10_pump := fun w h => List.mem_cons_of_mem _ (List.mem_append_right _ h)
  intro n
  induction n with
  | zero => intro v2 v3 p0_way hw; exact hw.elim
  | succ n ih =>
    intro v2 v3 p0_way hw H locs ls hP hD hS hl
    have hw : w_X10_pump_L37b v1 p0_hasTree p0_places p0_treeSize p0_ways p0_aboveOf p0_come p0_nodes p0_puts p0_stepOf p0_takes post K (w_X10_pump_L37 v1 p0_hasTree p0_places p0_treeSize p0_ways p0_aboveOf p0_come p0_nodes p0_puts p0_stepOf p0_takes post K n) v2 v3 p0_way := hw
    unfold w_X10_pump_L37b at hw
    refine lv_aload_n hx hb dX10_pump_37 rfl (lv_at hl 0 rfl) ?_
    refine va_get (D := (dC, dI)) (ci := 10) (v := .ref (ad_p0 37)) (C := RX10) (T := TX10) (N := 50) hx hb hts iX10 hown hK hP 0 rfl rfl 37 (by decide) (hts (.fieldLink RX10 93 "NetHouseModel" "aboveOf" "[I") (by decide +kernel)) (fun _ h9 => h9) rfl dX10_pump_38 ?_
    refine lv_iload_n hx hb dX10_pump_41 rfl (lv_at hl 3 rfl) ?_
    refine va_iald hx hb hK hP 1 0 rfl rfl hw.1 dX10_pump_42 ?_
    have hw := hw.2
    refine lv_ldc (v := -2000000005) hx hb hown (hts (.constant RX10 85 (-2000000005)) (by decide +kernel)) dX10_pump_43 ?_
    refine lv_icmp_eq (tgt := 73) hx hb dX10_pump_45 (by decide) (fun c7 => ?_) (fun c8 => ?_)
    · have hw := hw.1 c7
      exact hk _ _ _ _ _ _ hw hP hD hS (lv_sub hl [0, 1] rfl)
    · have hw := hw.2 c8
      obtain ⟨x9, ex9⟩ : ∃ y : Int32, y = v2 + (-1 : Int32) := ⟨_, rfl⟩
      have hw := hw x9 ex9
      refine lv_iinc (v := x9) (lv' := [(2, .int x9), (0, .ref h_p0), (1, .int v1), (3, .int v3)]) hx hb dX10_pump_48 hl (k := 2) rfl (by rw [ex9]; rfl) (by decide) rfl (fun ls hl => ?_)
      refine lv_aload_n hx hb dX10_pump_51 rfl (lv_at hl 1 rfl) ?_
      refine va_get (D := (dC, dI)) (ci := 10) (v := .ref (ad_p0 22)) (C := RX10) (T := TX10) (N := 50) hx hb hts iX10 hown hK hP 0 rfl rfl 22 (by decide) (hts (.fieldLink RX10 56 "NetHouseModel" "way" "[I") (by decide +kernel)) (fun _ h9 => h9) rfl dX10_pump_52 ?_
      refine lv_iload_n hx hb dX10_pump_55 rfl (lv_at hl 0 rfl) ?_
      refine lv_aload_n hx hb dX10_pump_56 rfl (lv_at hl 1 rfl) ?_
      refine va_get (D := (dC, dI)) (ci := 10) (v := .ref (ad_p0 38)) (C := RX10) (T := TX10) (N := 50) hx hb hts iX10 hown hK hP 0 rfl rfl 38 (by decide) (hts (.fieldLink RX10 96 "NetHouseModel" "stepOf" "[I") (by decide +kernel)) (fun _ h9 => h9) rfl dX10_pump_57 ?_
      refine lv_iload_n hx hb dX10_pump_60 rfl (lv_at hl 3 rfl) ?_
      refine va_iald hx hb hK hP 5 0 rfl rfl hw.1 dX10_pump_61 ?_
      have hw := hw.2
      refine va_iast hx hb hK hP hD hS 7 0 rfl rfl hw.1 dX10_pump_62 (fun H locs hP hD hS => ?_)
      have hw := hw.2
      have hP : va_P (dC, dI) vwCl (wld_X10_pump cI cJ cZ h_p0 ad_p0 p0_places p0_steps p0_pastFirst p0_past p0_goings p0_rowSize p0_ways p0_hasField p0_fieldSize p0_faultNow p0_hasTree p0_treeSize p0_weightCount p0_roundCount p0_setCount p0_aboveOf p0_come p0_nodes p0_puts p0_stepOf p0_takes (upd p0_way x9.toNatClampNeg (p0_stepOf v3.toNatClampNeg))) H := hP
      have hD : va_D A (wld_X10_pump cI cJ cZ h_p0 ad_p0 p0_places p0_steps p0_pastFirst p0_past p0_goings p0_rowSize p0_ways p0_hasField p0_fieldSize p0_faultNow p0_hasTree p0_treeSize p0_weightCount p0_roundCount p0_setCount p0_aboveOf p0_come p0_nodes p0_puts p0_stepOf p0_takes (upd p0_way x9.toNatClampNeg (p0_stepOf v3.toNatClampNeg))) := hD
      refine lv_aload_n hx hb dX10_pump_63 rfl (lv_at hl 1 rfl) ?_
      refine va_get (D := (dC, dI)) (ci := 10) (v := .ref (ad_p0 37)) (C := RX10) (T := TX10) (N := 50) hx hb hts iX10 hown hK hP 0 rfl rfl 37 (by decide) (hts (.fieldLink RX10 93 "NetHouseModel" "aboveOf" "[I") (by decide +kernel)) (fun _ h9 => h9) rfl dX10_pump_64 ?_
      refine lv_iload_n hx hb dX10_pump_67 rfl (lv_at hl 3 rfl) ?_
      refine va_iald hx hb hK hP 1 0 rfl rfl hw.1 dX10_pump_68 ?_
      have hw := hw.2
      refine lv_topi (fun x10 ex10 => ?_)
      have hw := hw x10 ex10
      refine lv_istore_n (lv' := [(3, .int x10), (2, .int x9), (0, .ref h_p0), (1, .int v1)]) hx hb dX10_pump_69 rfl hl (by decide) rfl (fun ls hl => ?_)
      refine lv_goto (tgt := 37) hx hb dX10_pump_70 (by decide) ?_
      exact ih _ _ _ hw _ _ _ hP hD hS (lv_sub hl [2, 3, 1, 0] rfl)
set_option maxHeartbeats 4000000 in
set_option maxRecDepth 100000 in
theorem c_X10_pump_L85 {p : Program} {l : Launch} {e : Env} {s : State} {m : MethodId} {args : Array Value} {below : List Frame} {meth : Method} {c : Code} {dC : Nat → ClassId} {dI : Nat → Nat → Nat} {A : Nat → Prop} {cI cJ cZ : ClassId} {h_p0 : Nat} {ad_p0 : Nat → Nat} {p0_places : Int32} {p0_steps : Int32} {p0_pastFirst : Int32} {p0_past : Int32} {p0_goings : Int32} {p0_rowSize : Int32} {p0_ways : Int32} {p0_hasField : Int32} {p0_fieldSize : Int32} {p0_faultNow : Int32} {p0_hasTree : Int32} {p0_treeSize : Int32} {p0_weightCount : Int32} {p0_roundCount : Int32} {p0_setCount : Int32} {p0_aboveOf : Nat → Int32} {p0_come : Nat → Int32} {p0_nodes : Nat → Int32} {p0_puts : Nat → Int32} {p0_stepOf : Nat → Int32} {p0_takes : Nat → Int32} {p0_way : Nat → Int32}  {post : Int32 → (Int32) → (Nat → Int32) → (Nat → Int32) → Prop} {K : (Int32) → Prop} (E0 : xEnv p s m args meth c cX10_pump (some .int) 4 RX10 wsX10_pump (dC, dI) cI cJ cZ A) (hk : ∀ (v3 : Int32) (H : Heap) (locs : List Loc) (ls : Array Slot), K v3 → va_P (dC, dI) vwCl (wld_X10_pump cI cJ cZ h_p0 ad_p0 p0_places p0_steps p0_pastFirst p0_past p0_goings p0_rowSize p0_ways p0_hasField p0_fieldSize p0_faultNow p0_hasTree p0_treeSize p0_weightCount p0_roundCount p0_setCount p0_aboveOf p0_come p0_nodes p0_puts p0_stepOf p0_takes p0_way) H → va_D A (wld_X10_pump cI cJ cZ h_p0 ad_p0 p0_places p0_steps p0_pastFirst p0_past p0_goings p0_rowSize p0_ways p0_hasField p0_fieldSize p0_faultNow p0_hasTree p0_treeSize p0_weightCount p0_roundCount p0_setCount p0_aboveOf p0_come p0_nodes p0_puts p0_stepOf p0_takes p0_way) → va_S A s.heap H locs → lv_has ls 4 [(0, .ref h_p0), (3, .int v3)] → W p l e ({ frames := 1, cells := 0, slots := 0, locals := 24 }) s m args below meth c H locs 0 0 (MQ below (q_X10_pump dC dI cI cJ cZ h_p0 ad_p0 p0_places p0_steps p0_pastFirst p0_past p0_goings p0_rowSize p0_ways p0_hasField p0_fieldSize p0_faultNow p0_hasTree p0_treeSize p0_weightCount p0_roundCount p0_setCount p0_aboveOf p0_come p0_nodes p0_puts p0_stepOf p0_takes p0_way post A) args s 0 0 A) (F0 m 103 ls [])) : ∀ (n : Nat) (v3 : Int32), w_X10_pump_L85 p0_hasTree p0_places p0_treeSize p0_ways p0_aboveOf p0_come p0_nodes p0_puts p0_stepOf p0_takes p0_way post K n v3 → ∀ (H : Heap) (locs : List Loc) (ls : Array Slot), va_P (dC, dI) vwCl (wld_X10_pump cI cJ cZ h_p0 ad_p0 p0_places p0_steps p0_pastFirst p0_past p0_goings p0_rowSize p0_ways p0_hasField p0_fieldSize p0_faultNow p0_hasTree p0_treeSize p0_weightCount p0_roundCount p0_setCount p0_aboveOf p0_come p0_nodes p0_puts p0_stepOf p0_takes p0_way) H → va_D A (wld_X10_pump cI cJ cZ h_p0 ad_p0 p0_places p0_steps p0_pastFirst p0_past p0_goings p0_rowSize p0_ways p0_hasField p0_fieldSize p0_faultNow p0_hasTree p0_treeSize p0_weightCount p0_roundCount p0_setCount p0_aboveOf p0_come p0_nodes p0_puts p0_stepOf p0_takes p0_way) → va_S A s.heap H locs → lv_has ls 4 [(0, .ref h_p0), (3, .int v3)] → W p l e ({ frames := 1, cells := 0, slots := 0, locals := 24 }) s m args below meth c H locs 0 0 (MQ below (q_X10_pump dC dI cI cJ cZ h_p0 ad_p0 p0_places p0_steps p0_pastFirst p0_past p0_goings p0_rowSize p0_ways p0_hasField p0_fieldSize p0_faultNow p0_hasTree p0_treeSize p0_weightCount p0_roundCount p0_setCount p0_aboveOf p0_come p0_nodes p0_puts p0_stepOf p0_takes p0_way post A) args s 0 0 A) (F0 m 85 ls []) := by
  obtain ⟨hx, hb, hr, hml, hown, hts, hlocks, hK, hA, n1, n2⟩ := id E0
  have iX10 : ∀ w ∈ u_ws RX10 TX10 50, w ∈ wsX10_pump := fun w h => List.mem_cons_of_mem _ (List.mem_append_right _ h)
  intro n
  induction n with
  | zero => intro v3 hw; exact hw.elim
  | succ n ih =>
    intro v3 hw H locs ls hP hD hS hl
    have hw : w_X10_pump_L85b p0_hasTree p0_places p0_treeSize p0_ways p0_aboveOf p0_come p0_nodes p0_puts p0_stepOf p0_takes p0_way post K (w_X10_pump_L85 p0_hasTree p0_places p0_treeSize p0_ways p0_aboveOf p0_come p0_nodes p0_puts p0_stepOf p0_takes p0_way post K n) v3 := hw
    unfold w_X10_pump_L85b at hw
    refine lv_aload_n hx hb dX10_pump_85 rfl (lv_at hl 0 rfl) ?_
    refine lv_iload_n hx hb dX10_pump_86 rfl (lv_at hl 1 rfl) ?_
    obtain ⟨hPc, hDc⟩ := x_sub (wc := (wld_X10_isLess cI cJ cZ h_p0 ad_p0 p0_places p0_steps p0_pastFirst p0_past p0_goings p0_rowSize p0_ways p0_hasField p0_fieldSize p0_faultNow p0_hasTree p0_treeSize p0_weightCount p0_roundCount p0_setCount p0_come p0_nodes)) hP hD [0, 2, 3] (n := 8) rfl rfl (by decide +kernel)
    refine x_calli (ws' := fun (u : Unit) => (wld_X10_pump cI cJ cZ h_p0 ad_p0 p0_places p0_steps p0_pastFirst p0_past p0_goings p0_rowSize p0_ways p0_hasField p0_fieldSize p0_faultNow p0_hasTree p0_treeSize p0_weightCount p0_roundCount p0_setCount p0_aboveOf p0_come p0_nodes p0_puts p0_stepOf p0_takes p0_way)) hP hD hS hA [0, 2, 3] [1, 4, 5, 6, 7] [5, 0, 6, 7, 1, 2, 3, 4] (n := 8) (k := 3) rfl (fun _ => rfl) rfl (by decide +kernel) (fun _ => rfl) (va_runV (As := [.int v3]) (rest := []) ⟨hx, hb, hml, hown, hts⟩ (c_X10_isLess (l := l) (dC := dC) (dI := dI) (cI := cI) (cJ := cJ) (cZ := cZ) (sz := H.size) (h_p0 := h_p0) (ad_p0 := ad_p0) (p0_places := p0_places) (p0_steps := p0_steps) (p0_pastFirst := p0_pastFirst) (p0_past := p0_past) (p0_goings := p0_goings) (p0_rowSize := p0_rowSize) (p0_ways := p0_ways) (p0_hasField := p0_hasField) (p0_fieldSize := p0_fieldSize) (p0_faultNow := p0_faultNow) (p0_hasTree := p0_hasTree) (p0_treeSize := p0_treeSize) (p0_weightCount := p0_weightCount) (p0_roundCount := p0_roundCount) (p0_setCount := p0_setCount) (p0_come := p0_come) (p0_nodes := p0_nodes) hw) (cwV 1 hts gX10_pump_X10_isLess rfl rfl rfl (by decide +kernel) ⟨Nat.le_of_ble_eq_true rfl, Nat.le_of_ble_eq_true rfl⟩) ⟨xPre_blind, va_recv hK hP (ci := 10) (q0 := 0) rfl rfl, xPre_at hK hPc hDc n1 n2⟩ rfl rfl hl.1 rfl (lv_room (Nat.le_of_ble_eq_true rfl)) dX10_pump_87 ⟨Nat.zero_le _, Nat.zero_le _⟩) (fun r17 u H locs hw hP hD hS => ?_)
    try dsimp only at hw
    have hP : va_P (dC, dI) vwCl (wld_X10_pump cI cJ cZ h_p0 ad_p0 p0_places p0_steps p0_pastFirst p0_past p0_goings p0_rowSize p0_ways p0_hasField p0_fieldSize p0_faultNow p0_hasTree p0_treeSize p0_weightCount p0_roundCount p0_setCount p0_aboveOf p0_come p0_nodes p0_puts p0_stepOf p0_takes p0_way) H := hP
    have hD : va_D A (wld_X10_pump cI cJ cZ h_p0 ad_p0 p0_places p0_steps p0_pastFirst p0_past p0_goings p0_rowSize p0_ways p0_hasField p0_fieldSize p0_faultNow p0_hasTree p0_treeSize p0_weightCount p0_roundCount p0_setCount p0_aboveOf p0_come p0_nodes p0_puts p0_stepOf p0_takes p0_way) := hD
    refine lv_if_ne (tgt := 103) hx hb dX10_pump_90 (by decide) (fun c18 => ?_) (fun c19 => ?_)
    · have hw := hw.1 c18
      exact hk _ _ _ _ hw hP hD hS (lv_sub hl [0, 1] rfl)
    · have hw := hw.2 c19
      refine lv_aload_n hx hb dX10_pump_93 rfl (lv_at hl 0 rfl) ?_
      refine va_get (D := (dC, dI)) (ci := 10) (v := .ref (ad_p0 37)) (C := RX10) (T := TX10) (N := 50) hx hb hts iX10 hown hK hP 0 rfl rfl 37 (by decide) (hts (.fieldLink RX10 93 "NetHouseModel" "aboveOf" "[I") (by decide +kernel)) (fun _ h9 => h9) rfl dX10_pump_94 ?_
      refine lv_iload_n hx hb dX10_pump_97 rfl (lv_at hl 1 rfl) ?_
      refine va_iald hx hb hK hP 1 0 rfl rfl hw.1 dX10_pump_98 ?_
      have hw := hw.2
      refine lv_topi (fun x20 ex20 => ?_)
      have hw := hw x20 ex20
      refine lv_istore_n (lv' := [(3, .int x20), (0, .ref h_p0)]) hx hb dX10_pump_99 rfl hl (by decide) rfl (fun ls hl => ?_)
      refine lv_goto (tgt := 85) hx hb dX10_pump_100 (by decide) ?_
      exact ih _ hw _ _ _ hP hD hS (lv_sub hl [1, 0] rfl)
set_option maxHeartbeats 4000000 in
set_option maxRecDepth 100000 in
theorem c_X10_pump {l : Launch} {dC : Nat → ClassId} {dI : Nat → Nat → Nat} {sz : Nat} {cI cJ cZ : ClassId} {h_p0 : Nat} {ad_p0 : Nat → Nat} {p0_places : Int32} {p0_steps : Int32} {p0_pastFirst : Int32} {p0_past : Int32} {p0_goings : Int32} {p0_rowSize : Int32} {p0_ways : Int32} {p0_hasField : Int32} {p0_fieldSize : Int32} {p0_faultNow : Int32} {p0_hasTree : Int32} {p0_treeSize : Int32} {p0_weightCount : Int32} {p0_roundCount : Int32} {p0_setCount : Int32} {p0_aboveOf : Nat → Int32} {p0_come : Nat → Int32} {p0_nodes : Nat → Int32} {p0_puts : Nat → Int32} {p0_stepOf : Nat → Int32} {p0_takes : Nat → Int32} {p0_way : Nat → Int32}  {post : Int32 → (Int32) → (Nat → Int32) → (Nat → Int32) → Prop} (hw : w_X10_pump p0_hasTree p0_places p0_treeSize p0_ways p0_aboveOf p0_come p0_nodes p0_puts p0_stepOf p0_takes p0_way post) : Met l yX10_pump wsX10_pump ({ frames := 1, cells := 0, slots := 0, locals := 24 }) (va_Pc [.ref h_p0] (xPre (dC, dI) cI cJ cZ (wld_X10_pump cI cJ cZ h_p0 ad_p0 p0_places p0_steps p0_pastFirst p0_past p0_goings p0_rowSize p0_ways p0_hasField p0_fieldSize p0_faultNow p0_hasTree p0_treeSize p0_weightCount p0_roundCount p0_setCount p0_aboveOf p0_come p0_nodes p0_puts p0_stepOf p0_takes p0_way) sz)) (q_X10_pump dC dI cI cJ cZ h_p0 ad_p0 p0_places p0_steps p0_pastFirst p0_past p0_goings p0_rowSize p0_ways p0_hasField p0_fieldSize p0_faultNow p0_hasTree p0_treeSize p0_weightCount p0_roundCount p0_setCount p0_aboveOf p0_come p0_nodes p0_puts p0_stepOf p0_takes p0_way post (va_A (wld_X10_pump cI cJ cZ h_p0 ad_p0 p0_places p0_steps p0_pastFirst p0_past p0_goings p0_rowSize p0_ways p0_hasField p0_fieldSize p0_faultNow p0_hasTree p0_treeSize p0_weightCount p0_roundCount p0_setCount p0_aboveOf p0_come p0_nodes p0_puts p0_stepOf p0_takes p0_way) sz)) 0 0 (va_A (wld_X10_pump cI cJ cZ h_p0 ad_p0 p0_places p0_steps p0_pastFirst p0_past p0_goings p0_rowSize p0_ways p0_hasField p0_fieldSize p0_faultNow p0_hasTree p0_treeSize p0_weightCount p0_roundCount p0_setCount p0_aboveOf p0_come p0_nodes p0_puts p0_stepOf p0_takes p0_way) sz) := by
  refine x_met (cc := cX10_pump) (maxL := 4) (ret := (some .int)) (own := RX10) (Qc := fun A => (q_X10_pump dC dI cI cJ cZ h_p0 ad_p0 p0_places p0_steps p0_pastFirst p0_past p0_goings p0_rowSize p0_ways p0_hasField p0_fieldSize p0_faultNow p0_hasTree p0_treeSize p0_weightCount p0_roundCount p0_setCount p0_aboveOf p0_come p0_nodes p0_puts p0_stepOf p0_takes p0_way post A)) (by decide) rfl rfl (Nat.le_of_ble_eq_true rfl) ?_
  intro p e s m args below meth c A ls E0 hP hD hS hl
  obtain ⟨hx, hb, hr, hml, hown, hts, hlocks, hK, hA, n1, n2⟩ := id E0
  have iX10 : ∀ w ∈ u_ws RX10 TX10 50, w ∈ wsX10_pump := fun w h => List.mem_cons_of_mem _ (List.mem_append_right _ h)
  have hS0 := hS
  have hl : lv_has ls 4 [(0, .ref h_p0)] := hl
  unfold w_X10_pump at hw
  obtain ⟨H, hH⟩ : ∃ H, H = s.heap := ⟨_, rfl⟩
  have hS : va_S A s.heap H [] := by rw [hH]; exact hS
  have hP : va_P (dC, dI) vwCl (wld_X10_pump cI cJ cZ h_p0 ad_p0 p0_places p0_steps p0_pastFirst p0_past p0_goings p0_rowSize p0_ways p0_hasField p0_fieldSize p0_faultNow p0_hasTree p0_treeSize p0_weightCount p0_roundCount p0_setCount p0_aboveOf p0_come p0_nodes p0_puts p0_stepOf p0_takes p0_way) H := by rw [hH]; exact hP
  suffices hG : W p l e ({ frames := 1, cells := 0, slots := 0, locals := 24 }) s m args below meth c H [] 0 0 (MQ below (q_X10_pump dC dI cI cJ cZ h_p0 ad_p0 p0_places p0_steps p0_pastFirst p0_past p0_goings p0_rowSize p0_ways p0_hasField p0_fieldSize p0_faultNow p0_hasTree p0_treeSize p0_weightCount p0_roundCount p0_setCount p0_aboveOf p0_come p0_nodes p0_puts p0_stepOf p0_takes p0_way post A) args s 0 0 A) (F0 m 0 ls []) by rw [hH] at hG; exact hG
  clear hH
  refine lv_aload_n hx hb dX10_pump_0 rfl (lv_at hl 0 rfl) ?_
  refine va_get (D := (dC, dI)) (ci := 10) (v := .int p0_hasTree) (C := RX10) (T := TX10) (N := 50) hx hb hts iX10 hown hK hP 0 rfl rfl 34 (by decide) (hts (.fieldLink RX10 137 "NetHouseModel" "hasTree" "Z") (by decide +kernel)) (fun _ h9 => h9) rfl dX10_pump_1 ?_
  refine lv_if_ne (tgt := 10) hx hb dX10_pump_4 (by decide) (fun c1 => ?_) (fun c2 => ?_)
  · have hw := hw.1 c1
    refine lv_aload_n hx hb dX10_pump_10 rfl (lv_at hl 0 rfl) ?_
    obtain ⟨hPc, hDc⟩ := x_sub (wc := (wld_X10_leastEndless cI cJ cZ h_p0 ad_p0 p0_places p0_steps p0_pastFirst p0_past p0_goings p0_rowSize p0_ways p0_hasField p0_fieldSize p0_faultNow p0_hasTree p0_treeSize p0_weightCount p0_roundCount p0_setCount p0_nodes)) hP hD [0, 3] (n := 8) rfl rfl (by decide +kernel)
    refine x_calli (ws' := fun (u : Unit) => (wld_X10_pump cI cJ cZ h_p0 ad_p0 p0_places p0_steps p0_pastFirst p0_past p0_goings p0_rowSize p0_ways p0_hasField p0_fieldSize p0_faultNow p0_hasTree p0_treeSize p0_weightCount p0_roundCount p0_setCount p0_aboveOf p0_come p0_nodes p0_puts p0_stepOf p0_takes p0_way)) hP hD hS hA [0, 3] [1, 2, 4, 5, 6, 7] [6, 0, 1, 7, 2, 3, 4, 5] (n := 8) (k := 2) rfl (fun _ => rfl) rfl (by decide +kernel) (fun _ => rfl) (va_runV (As := []) (rest := []) ⟨hx, hb, hml, hown, hts⟩ (c_X10_leastEndless (l := l) (dC := dC) (dI := dI) (cI := cI) (cJ := cJ) (cZ := cZ) (sz := H.size) (h_p0 := h_p0) (ad_p0 := ad_p0) (p0_places := p0_places) (p0_steps := p0_steps) (p0_pastFirst := p0_pastFirst) (p0_past := p0_past) (p0_goings := p0_goings) (p0_rowSize := p0_rowSize) (p0_ways := p0_ways) (p0_hasField := p0_hasField) (p0_fieldSize := p0_fieldSize) (p0_faultNow := p0_faultNow) (p0_hasTree := p0_hasTree) (p0_treeSize := p0_treeSize) (p0_weightCount := p0_weightCount) (p0_roundCount := p0_roundCount) (p0_setCount := p0_setCount) (p0_nodes := p0_nodes) hw) (cwV 0 hts gX10_pump_X10_leastEndless rfl rfl rfl (by decide +kernel) ⟨Nat.le_of_ble_eq_true rfl, Nat.le_of_ble_eq_true rfl⟩) ⟨xPre_blind, va_recv hK hP (ci := 10) (q0 := 0) rfl rfl, xPre_at hK hPc hDc n1 n2⟩ rfl rfl hl.1 rfl (lv_room (Nat.le_of_ble_eq_true rfl)) dX10_pump_11 ⟨Nat.zero_le _, Nat.zero_le _⟩) (fun r3 u H locs hw hP hD hS => ?_)
    try dsimp only at hw
    have hP : va_P (dC, dI) vwCl (wld_X10_pump cI cJ cZ h_p0 ad_p0 p0_places p0_steps p0_pastFirst p0_past p0_goings p0_rowSize p0_ways p0_hasField p0_fieldSize p0_faultNow p0_hasTree p0_treeSize p0_weightCount p0_roundCount p0_setCount p0_aboveOf p0_come p0_nodes p0_puts p0_stepOf p0_takes p0_way) H := hP
    have hD : va_D A (wld_X10_pump cI cJ cZ h_p0 ad_p0 p0_places p0_steps p0_pastFirst p0_past p0_goings p0_rowSize p0_ways p0_hasField p0_fieldSize p0_faultNow p0_hasTree p0_treeSize p0_weightCount p0_roundCount p0_setCount p0_aboveOf p0_come p0_nodes p0_puts p0_stepOf p0_takes p0_way) := hD
    refine lv_istore_n (lv' := [(1, .int r3), (0, .ref h_p0)]) hx hb dX10_pump_14 rfl hl (by decide) rfl (fun ls hl => ?_)
    refine lv_iload_n hx hb dX10_pump_15 rfl (lv_at hl 0 rfl) ?_
    refine lv_ldc (v := -2000000005) hx hb hown (hts (.constant RX10 85 (-2000000005)) (by decide +kernel)) dX10_pump_16 ?_
    refine lv_icmp_ne (tgt := 24) hx hb dX10_pump_18 (by decide) (fun c4 => ?_) (fun c5 => ?_)
    · have hw := hw.1 c4
      refine lv_aload_n hx hb dX10_pump_24 rfl (lv_at hl 1 rfl) ?_
      refine lv_iload_n hx hb dX10_pump_25 rfl (lv_at hl 0 rfl) ?_
      obtain ⟨hPc, hDc⟩ := x_sub (wc := (wld_X10_depthOf cI cJ cZ h_p0 ad_p0 p0_places p0_steps p0_pastFirst p0_past p0_goings p0_rowSize p0_ways p0_hasField p0_fieldSize p0_faultNow p0_hasTree p0_treeSize p0_weightCount p0_roundCount p0_setCount p0_aboveOf)) hP hD [0, 1] (n := 8) rfl rfl (by decide +kernel)
      refine x_calli (ws' := fun (u : Unit) => (wld_X10_pump cI cJ cZ h_p0 ad_p0 p0_places p0_steps p0_pastFirst p0_past p0_goings p0_rowSize p0_ways p0_hasField p0_fieldSize p0_faultNow p0_hasTree p0_treeSize p0_weightCount p0_roundCount p0_setCount p0_aboveOf p0_come p0_nodes p0_puts p0_stepOf p0_takes p0_way)) hP hD hS hA [0, 1] [2, 3, 4, 5, 6, 7] [6, 7, 0, 1, 2, 3, 4, 5] (n := 8) (k := 2) rfl (fun _ => rfl) rfl (by decide +kernel) (fun _ => rfl) (va_runV (As := [.int r3]) (rest := []) ⟨hx, hb, hml, hown, hts⟩ (c_X10_depthOf (l := l) (dC := dC) (dI := dI) (cI := cI) (cJ := cJ) (cZ := cZ) (sz := H.size) (h_p0 := h_p0) (ad_p0 := ad_p0) (p0_places := p0_places) (p0_steps := p0_steps) (p0_pastFirst := p0_pastFirst) (p0_past := p0_past) (p0_goings := p0_goings) (p0_rowSize := p0_rowSize) (p0_ways := p0_ways) (p0_hasField := p0_hasField) (p0_fieldSize := p0_fieldSize) (p0_faultNow := p0_faultNow) (p0_hasTree := p0_hasTree) (p0_treeSize := p0_treeSize) (p0_weightCount := p0_weightCount) (p0_roundCount := p0_roundCount) (p0_setCount := p0_setCount) (p0_aboveOf := p0_aboveOf) hw) (cwV 1 hts gX10_pump_X10_depthOf rfl rfl rfl (by decide +kernel) ⟨Nat.le_of_ble_eq_true rfl, Nat.le_of_ble_eq_true rfl⟩) ⟨xPre_blind, va_recv hK hP (ci := 10) (q0 := 0) rfl rfl, xPre_at hK hPc hDc n1 n2⟩ rfl rfl hl.1 rfl (lv_room (Nat.le_of_ble_eq_true rfl)) dX10_pump_26 ⟨Nat.zero_le _, Nat.zero_le _⟩) (fun r6 u H locs hw hP hD hS => ?_)
      try dsimp only at hw
      have hP : va_P (dC, dI) vwCl (wld_X10_pump cI cJ cZ h_p0 ad_p0 p0_places p0_steps p0_pastFirst p0_past p0_goings p0_rowSize p0_ways p0_hasField p0_fieldSize p0_faultNow p0_hasTree p0_treeSize p0_weightCount p0_roundCount p0_setCount p0_aboveOf p0_come p0_nodes p0_puts p0_stepOf p0_takes p0_way) H := hP
      have hD : va_D A (wld_X10_pump cI cJ cZ h_p0 ad_p0 p0_places p0_steps p0_pastFirst p0_past p0_goings p0_rowSize p0_ways p0_hasField p0_fieldSize p0_faultNow p0_hasTree p0_treeSize p0_weightCount p0_roundCount p0_setCount p0_aboveOf p0_come p0_nodes p0_puts p0_stepOf p0_takes p0_way) := hD
      refine lv_istore_n (lv' := [(2, .int r6), (1, .int r3), (0, .ref h_p0)]) hx hb dX10_pump_29 rfl hl (by decide) rfl (fun ls hl => ?_)
      refine lv_aload_n hx hb dX10_pump_30 rfl (lv_at hl 2 rfl) ?_
      refine lv_iload_n hx hb dX10_pump_31 rfl (lv_at hl 0 rfl) ?_
      refine va_put (D := (dC, dI)) (ci := 10) (v := .int r6) (ty := .int) (C := RX10) (T := TX10) (N := 50) hx hb hts iX10 tyX10 tyX10_ok nmX10 hown hK hP hD hS 0 rfl rfl 21 (by decide) (hts (.fieldLink RX10 225 "NetHouseModel" "ways" "I") (by decide +kernel)) (fun _ h9 => h9) rfl (by decide +kernel) rfl rfl (Nat.le_of_ble_eq_true rfl) dX10_pump_32 (fun H locs hP hD hS => ?_)
      have hP : va_P (dC, dI) vwCl (wld_X10_pump cI cJ cZ h_p0 ad_p0 p0_places p0_steps p0_pastFirst p0_past p0_goings p0_rowSize r6 p0_hasField p0_fieldSize p0_faultNow p0_hasTree p0_treeSize p0_weightCount p0_roundCount p0_setCount p0_aboveOf p0_come p0_nodes p0_puts p0_stepOf p0_takes p0_way) H := hP
      have hD : va_D A (wld_X10_pump cI cJ cZ h_p0 ad_p0 p0_places p0_steps p0_pastFirst p0_past p0_goings p0_rowSize r6 p0_hasField p0_fieldSize p0_faultNow p0_hasTree p0_treeSize p0_weightCount p0_roundCount p0_setCount p0_aboveOf p0_come p0_nodes p0_puts p0_stepOf p0_takes p0_way) := hD
      refine lv_iload_n hx hb dX10_pump_35 rfl (lv_at hl 1 rfl) ?_
      refine lv_istore_n (lv' := [(3, .int r3), (2, .int r6), (1, .int r3), (0, .ref h_p0)]) hx hb dX10_pump_36 rfl hl (by decide) rfl (fun ls hl => ?_)
      obtain ⟨n11, hw⟩ := hw
      refine c_X10_pump_L37 (l := l) (z_p0_way := p0_way) E0 ?_ n11 _ _ _ hw _ _ _ hP hD hS (lv_sub hl [3, 2, 1, 0] rfl)
      · intro v12 v13 s14 H locs ls hw hP hD hS hl
        have hP : va_P (dC, dI) vwCl (wld_X10_pump cI cJ cZ h_p0 ad_p0 p0_places p0_steps p0_pastFirst p0_past p0_goings p0_rowSize r6 p0_hasField p0_fieldSize p0_faultNow p0_hasTree p0_treeSize p0_weightCount p0_roundCount p0_setCount p0_aboveOf p0_come p0_nodes p0_puts p0_stepOf p0_takes s14) H := hP
        have hD : va_D A (wld_X10_pump cI cJ cZ h_p0 ad_p0 p0_places p0_steps p0_pastFirst p0_past p0_goings p0_rowSize r6 p0_hasField p0_fieldSize p0_faultNow p0_hasTree p0_treeSize p0_weightCount p0_roundCount p0_setCount p0_aboveOf p0_come p0_nodes p0_puts p0_stepOf p0_takes s14) := hD
        refine lv_aload_n hx hb dX10_pump_73 rfl (lv_at hl 0 rfl) ?_
        refine lv_iload_n hx hb dX10_pump_74 rfl (lv_at hl 1 rfl) ?_
        obtain ⟨hPc, hDc⟩ := x_sub (wc := (wld_X10_comeTo cI cJ cZ h_p0 ad_p0 p0_places p0_steps p0_pastFirst p0_past p0_goings p0_rowSize r6 p0_hasField p0_fieldSize p0_faultNow p0_hasTree p0_treeSize p0_weightCount p0_roundCount p0_setCount p0_aboveOf p0_come p0_nodes p0_puts p0_stepOf p0_takes)) hP hD [0, 1, 2, 3, 4, 5, 6] (n := 8) rfl rfl (by decide +kernel)
        refine x_callv (ws' := fun (u : (Nat → Int32)) => (wld_X10_pump cI cJ cZ h_p0 ad_p0 p0_places p0_steps p0_pastFirst p0_past p0_goings p0_rowSize r6 p0_hasField p0_fieldSize p0_faultNow p0_hasTree p0_treeSize p0_weightCount p0_roundCount p0_setCount p0_aboveOf u p0_nodes p0_puts p0_stepOf p0_takes s14)) hP hD hS hA [0, 1, 2, 3, 4, 5, 6] [7] [1, 2, 3, 4, 5, 6, 7, 0] (n := 8) (k := 7) rfl (fun _ => rfl) rfl (by decide +kernel) (fun _ => rfl) (va_runV (As := [.int r3]) (rest := []) ⟨hx, hb, hml, hown, hts⟩ (c_X10_comeTo (l := l) (dC := dC) (dI := dI) (cI := cI) (cJ := cJ) (cZ := cZ) (sz := H.size) (h_p0 := h_p0) (ad_p0 := ad_p0) (p0_places := p0_places) (p0_steps := p0_steps) (p0_pastFirst := p0_pastFirst) (p0_past := p0_past) (p0_goings := p0_goings) (p0_rowSize := p0_rowSize) (p0_ways := r6) (p0_hasField := p0_hasField) (p0_fieldSize := p0_fieldSize) (p0_faultNow := p0_faultNow) (p0_hasTree := p0_hasTree) (p0_treeSize := p0_treeSize) (p0_weightCount := p0_weightCount) (p0_roundCount := p0_roundCount) (p0_setCount := p0_setCount) (p0_aboveOf := p0_aboveOf) (p0_come := p0_come) (p0_nodes := p0_nodes) (p0_puts := p0_puts) (p0_stepOf := p0_stepOf) (p0_takes := p0_takes) hw) (cwV 1 hts gX10_pump_X10_comeTo rfl rfl rfl (by decide +kernel) ⟨Nat.le_of_ble_eq_true rfl, Nat.le_of_ble_eq_true rfl⟩) ⟨xPre_blind, va_recv hK hP (ci := 10) (q0 := 0) rfl rfl, xPre_at hK hPc hDc n1 n2⟩ rfl rfl hl.1 rfl (lv_room (Nat.le_of_ble_eq_true rfl)) dX10_pump_75 ⟨Nat.zero_le _, Nat.zero_le _⟩) (fun u H locs hw hP hD hS => ?_)
        obtain ⟨y15, rfl⟩ : ∃ z, z = u := ⟨_, rfl⟩
        try dsimp only at hw
        have hP : va_P (dC, dI) vwCl (wld_X10_pump cI cJ cZ h_p0 ad_p0 p0_places p0_steps p0_pastFirst p0_past p0_goings p0_rowSize r6 p0_hasField p0_fieldSize p0_faultNow p0_hasTree p0_treeSize p0_weightCount p0_roundCount p0_setCount p0_aboveOf y15 p0_nodes p0_puts p0_stepOf p0_takes s14) H := hP
        have hD : va_D A (wld_X10_pump cI cJ cZ h_p0 ad_p0 p0_places p0_steps p0_pastFirst p0_past p0_goings p0_rowSize r6 p0_hasField p0_fieldSize p0_faultNow p0_hasTree p0_treeSize p0_weightCount p0_roundCount p0_setCount p0_aboveOf y15 p0_nodes p0_puts p0_stepOf p0_takes s14) := hD
        refine lv_aload_n hx hb dX10_pump_78 rfl (lv_at hl 0 rfl) ?_
        refine va_get (D := (dC, dI)) (ci := 10) (v := .ref (ad_p0 37)) (C := RX10) (T := TX10) (N := 50) hx hb hts iX10 hown hK hP 0 rfl rfl 37 (by decide) (hts (.fieldLink RX10 93 "NetHouseModel" "aboveOf" "[I") (by decide +kernel)) (fun _ h9 => h9) rfl dX10_pump_79 ?_
        refine lv_iload_n hx hb dX10_pump_82 rfl (lv_at hl 1 rfl) ?_
        refine va_iald hx hb hK hP 1 0 rfl rfl hw.1 dX10_pump_83 ?_
        have hw := hw.2
        refine lv_topi (fun x16 ex16 => ?_)
        have hw := hw x16 ex16
        refine lv_istore_n (lv' := [(3, .int x16), (0, .ref h_p0), (1, .int r3)]) hx hb dX10_pump_84 rfl hl (by decide) rfl (fun ls hl => ?_)
        obtain ⟨n21, hw⟩ := hw
        refine c_X10_pump_L85 (l := l)  E0 ?_ n21 _ hw _ _ _ hP hD hS (lv_sub hl [1, 0] rfl)
        · intro v22 H locs ls hw hP hD hS hl
          have hP : va_P (dC, dI) vwCl (wld_X10_pump cI cJ cZ h_p0 ad_p0 p0_places p0_steps p0_pastFirst p0_past p0_goings p0_rowSize r6 p0_hasField p0_fieldSize p0_faultNow p0_hasTree p0_treeSize p0_weightCount p0_roundCount p0_setCount p0_aboveOf y15 p0_nodes p0_puts p0_stepOf p0_takes s14) H := hP
          have hD : va_D A (wld_X10_pump cI cJ cZ h_p0 ad_p0 p0_places p0_steps p0_pastFirst p0_past p0_goings p0_rowSize r6 p0_hasField p0_fieldSize p0_faultNow p0_hasTree p0_treeSize p0_weightCount p0_roundCount p0_setCount p0_aboveOf y15 p0_nodes p0_puts p0_stepOf p0_takes s14) := hD
          refine lv_aload_n hx hb dX10_pump_103 rfl (lv_at hl 0 rfl) ?_
          refine lv_iload_n hx hb dX10_pump_104 rfl (lv_at hl 1 rfl) ?_
          obtain ⟨hPc, hDc⟩ := x_sub (wc := (wld_X10_depthOf cI cJ cZ h_p0 ad_p0 p0_places p0_steps p0_pastFirst p0_past p0_goings p0_rowSize r6 p0_hasField p0_fieldSize p0_faultNow p0_hasTree p0_treeSize p0_weightCount p0_roundCount p0_setCount p0_aboveOf)) hP hD [0, 1] (n := 8) rfl rfl (by decide +kernel)
          refine x_calli (ws' := fun (u : Unit) => (wld_X10_pump cI cJ cZ h_p0 ad_p0 p0_places p0_steps p0_pastFirst p0_past p0_goings p0_rowSize r6 p0_hasField p0_fieldSize p0_faultNow p0_hasTree p0_treeSize p0_weightCount p0_roundCount p0_setCount p0_aboveOf y15 p0_nodes p0_puts p0_stepOf p0_takes s14)) hP hD hS hA [0, 1] [2, 3, 4, 5, 6, 7] [6, 7, 0, 1, 2, 3, 4, 5] (n := 8) (k := 2) rfl (fun _ => rfl) rfl (by decide +kernel) (fun _ => rfl) (va_runV (As := [.int v22]) (rest := []) ⟨hx, hb, hml, hown, hts⟩ (c_X10_depthOf (l := l) (dC := dC) (dI := dI) (cI := cI) (cJ := cJ) (cZ := cZ) (sz := H.size) (h_p0 := h_p0) (ad_p0 := ad_p0) (p0_places := p0_places) (p0_steps := p0_steps) (p0_pastFirst := p0_pastFirst) (p0_past := p0_past) (p0_goings := p0_goings) (p0_rowSize := p0_rowSize) (p0_ways := r6) (p0_hasField := p0_hasField) (p0_fieldSize := p0_fieldSize) (p0_faultNow := p0_faultNow) (p0_hasTree := p0_hasTree) (p0_treeSize := p0_treeSize) (p0_weightCount := p0_weightCount) (p0_roundCount := p0_roundCount) (p0_setCount := p0_setCount) (p0_aboveOf := p0_aboveOf) hw) (cwV 1 hts gX10_pump_X10_depthOf rfl rfl rfl (by decide +kernel) ⟨Nat.le_of_ble_eq_true rfl, Nat.le_of_ble_eq_true rfl⟩) ⟨xPre_blind, va_recv hK hP (ci := 10) (q0 := 0) rfl rfl, xPre_at hK hPc hDc n1 n2⟩ rfl rfl hl.1 rfl (lv_room (Nat.le_of_ble_eq_true rfl)) dX10_pump_105 ⟨Nat.zero_le _, Nat.zero_le _⟩) (fun r23 u H locs hw hP hD hS => ?_)
          try dsimp only at hw
          have hP : va_P (dC, dI) vwCl (wld_X10_pump cI cJ cZ h_p0 ad_p0 p0_places p0_steps p0_pastFirst p0_past p0_goings p0_rowSize r6 p0_hasField p0_fieldSize p0_faultNow p0_hasTree p0_treeSize p0_weightCount p0_roundCount p0_setCount p0_aboveOf y15 p0_nodes p0_puts p0_stepOf p0_takes s14) H := hP
          have hD : va_D A (wld_X10_pump cI cJ cZ h_p0 ad_p0 p0_places p0_steps p0_pastFirst p0_past p0_goings p0_rowSize r6 p0_hasField p0_fieldSize p0_faultNow p0_hasTree p0_treeSize p0_weightCount p0_roundCount p0_setCount p0_aboveOf y15 p0_nodes p0_puts p0_stepOf p0_takes s14) := hD
          exact x_iret (w1 := fun (u : (Int32) × (Nat → Int32) × (Nat → Int32)) => (wld_X10_pump cI cJ cZ h_p0 ad_p0 p0_places p0_steps p0_pastFirst p0_past p0_goings p0_rowSize (u.1) p0_hasField p0_fieldSize p0_faultNow p0_hasTree p0_treeSize p0_weightCount p0_roundCount p0_setCount p0_aboveOf (u.2.1) p0_nodes p0_puts p0_stepOf p0_takes (u.2.2))) hx hb hr hlocks (r6, y15, s14) hw hP hD hS dX10_pump_108
    · have hw := hw.2 c5
      refine lv_ldc (v := -2000000005) hx hb hown (hts (.constant RX10 85 (-2000000005)) (by decide +kernel)) dX10_pump_21 ?_
      exact x_iret (w1 := fun (u : (Int32) × (Nat → Int32) × (Nat → Int32)) => (wld_X10_pump cI cJ cZ h_p0 ad_p0 p0_places p0_steps p0_pastFirst p0_past p0_goings p0_rowSize (u.1) p0_hasField p0_fieldSize p0_faultNow p0_hasTree p0_treeSize p0_weightCount p0_roundCount p0_setCount p0_aboveOf (u.2.1) p0_nodes p0_puts p0_stepOf p0_takes (u.2.2))) hx hb hr hlocks (p0_ways, p0_come, p0_way) hw hP hD hS dX10_pump_23
  · have hw := hw.2 c2
    refine lv_ldc (v := -2000000002) hx hb hown (hts (.constant RX10 171 (-2000000002)) (by decide +kernel)) dX10_pump_7 ?_
    exact x_iret (w1 := fun (u : (Int32) × (Nat → Int32) × (Nat → Int32)) => (wld_X10_pump cI cJ cZ h_p0 ad_p0 p0_places p0_steps p0_pastFirst p0_past p0_goings p0_rowSize (u.1) p0_hasField p0_fieldSize p0_faultNow p0_hasTree p0_treeSize p0_weightCount p0_roundCount p0_setCount p0_aboveOf (u.2.1) p0_nodes p0_puts p0_stepOf p0_takes (u.2.2))) hx hb hr hlocks (p0_ways, p0_come, p0_way) hw hP hD hS dX10_pump_9
