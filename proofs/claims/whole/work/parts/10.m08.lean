abbrev wld_X10_expand (cI cJ cZ : ClassId) (h_p0 : Nat) (ad_p0 : Nat → Nat) (p0_places : Int32) (p0_steps : Int32) (p0_pastFirst : Int32) (p0_past : Int32) (p0_goings : Int32) (p0_rowSize : Int32) (p0_ways : Int32) (p0_hasField : Int32) (p0_fieldSize : Int32) (p0_faultNow : Int32) (p0_hasTree : Int32) (p0_treeSize : Int32) (p0_weightCount : Int32) (p0_roundCount : Int32) (p0_setCount : Int32) (p0_by : Nat → Int32) (p0_closes : Nat → Int32) (p0_come : Nat → Int32) (p0_field : Nat → Int32) (p0_former : Nat → Int32) (p0_needs : Nat → Int32) (p0_next : Nat → Int32) (p0_order : Nat → Int32) (p0_puts : Nat → Int32) (p0_sort : Nat → Int32) (p0_takes : Nat → Int32) : va_W := [(h_p0, .inr (10, [.int p0_places, .int p0_steps, .ref (ad_p0 2), .ref (ad_p0 3), .ref (ad_p0 4), .ref (ad_p0 5), .ref (ad_p0 6), .ref (ad_p0 7), .ref (ad_p0 8), .ref (ad_p0 9), .ref (ad_p0 10), .ref (ad_p0 11), .ref (ad_p0 12), .ref (ad_p0 13), .ref (ad_p0 14), .int p0_pastFirst, .int p0_past, .int p0_goings, .int p0_rowSize, .ref (ad_p0 19), .ref (ad_p0 20), .int p0_ways, .ref (ad_p0 22), .ref (ad_p0 23), .int p0_hasField, .int p0_fieldSize, .ref (ad_p0 26), .ref (ad_p0 27), .ref (ad_p0 28), .ref (ad_p0 29), .ref (ad_p0 30), .ref (ad_p0 31), .ref (ad_p0 32), .int p0_faultNow, .int p0_hasTree, .int p0_treeSize, .ref (ad_p0 36), .ref (ad_p0 37), .ref (ad_p0 38), .ref (ad_p0 39), .ref (ad_p0 40), .ref (ad_p0 41), .ref (ad_p0 42), .int p0_weightCount, .ref (ad_p0 44), .int p0_roundCount, .ref (ad_p0 46), .int p0_setCount, .ref (ad_p0 48), .ref (ad_p0 49)])), ((ad_p0 29), .inl (cI, 8000, .inl p0_by)), ((ad_p0 7), .inl (cI, 256, .inl p0_closes)), ((ad_p0 31), .inl (cI, 16, .inl p0_come)), ((ad_p0 26), .inl (cI, 128000, .inl p0_field)), ((ad_p0 28), .inl (cI, 8000, .inl p0_former)), ((ad_p0 6), .inl (cI, 256, .inl p0_needs)), ((ad_p0 30), .inl (cI, 128000, .inl p0_next)), ((ad_p0 27), .inl (cI, 8000, .inl p0_order)), ((ad_p0 5), .inl (cI, 256, .inl p0_puts)), ((ad_p0 3), .inl (cI, 16, .inl p0_sort)), ((ad_p0 4), .inl (cI, 256, .inl p0_takes))]
abbrev q_X10_expand (dC : Nat → ClassId) (dI : Nat → Nat → Nat) (cI cJ cZ : ClassId) (h_p0 : Nat) (ad_p0 : Nat → Nat) (p0_places : Int32) (p0_steps : Int32) (p0_pastFirst : Int32) (p0_past : Int32) (p0_goings : Int32) (p0_rowSize : Int32) (p0_ways : Int32) (p0_hasField : Int32) (p0_fieldSize : Int32) (p0_faultNow : Int32) (p0_hasTree : Int32) (p0_treeSize : Int32) (p0_weightCount : Int32) (p0_roundCount : Int32) (p0_setCount : Int32) (p0_by : Nat → Int32) (p0_closes : Nat → Int32) (p0_come : Nat → Int32) (p0_field : Nat → Int32) (p0_former : Nat → Int32) (p0_needs : Nat → Int32) (p0_next : Nat → Int32) (p0_order : Nat → Int32) (p0_puts : Nat → Int32) (p0_sort : Nat → Int32) (p0_takes : Nat → Int32) (post : Int32 → (Int32) → (Nat → Int32) → (Nat → Int32) → (Nat → Int32) → (Nat → Int32) → (Nat → Int32) → (Nat → Int32) → Prop) (A : Nat → Prop) : Array Value → State → Outcome → State → Prop := va_Qi (fun r (u : (Int32) × (Nat → Int32) × (Nat → Int32) × (Nat → Int32) × (Nat → Int32) × (Nat → Int32) × (Nat → Int32)) => post r (u.1) (u.2.1) (u.2.2.1) (u.2.2.2.1) (u.2.2.2.2.1) (u.2.2.2.2.2.1) (u.2.2.2.2.2.2)) (fun (u : (Int32) × (Nat → Int32) × (Nat → Int32) × (Nat → Int32) × (Nat → Int32) × (Nat → Int32) × (Nat → Int32)) t => xPost (dC, dI) A (wld_X10_expand cI cJ cZ h_p0 ad_p0 p0_places p0_steps p0_pastFirst p0_past p0_goings p0_rowSize p0_ways p0_hasField (u.1) p0_faultNow p0_hasTree p0_treeSize p0_weightCount p0_roundCount p0_setCount (u.2.1) p0_closes (u.2.2.1) (u.2.2.2.1) (u.2.2.2.2.1) p0_needs (u.2.2.2.2.2.1) (u.2.2.2.2.2.2) p0_puts p0_sort p0_takes) t) A
def w_X10_expand_L42b (v1 : Int32) (v2 : Int32) (v3 : Int32) (p0_fieldSize : Int32) (p0_places : Int32) (p0_steps : Int32) (p0_by : Nat → Int32) (p0_closes : Nat → Int32) (p0_field : Nat → Int32) (p0_former : Nat → Int32) (p0_needs : Nat → Int32) (p0_next : Nat → Int32) (p0_order : Nat → Int32) (p0_puts : Nat → Int32) (p0_sort : Nat → Int32) (p0_takes : Nat → Int32) (post : Int32 → (Int32) → (Nat → Int32) → (Nat → Int32) → (Nat → Int32) → (Nat → Int32) → (Nat → Int32) → (Nat → Int32) → Prop) (K : (Int32) → (Nat → Int32) → Prop) (rec : (Int32) → (Nat → Int32) → Prop) (v4 : Int32) (p0_come : Nat → Int32) : Prop :=
    (p0_places ≤ v4 →
      K v4 p0_come) ∧
    (¬ p0_places ≤ v4 →
      vp_in (((16 : Int32) * v1) + v4) 128000 ∧
      vp_in (((16 : Int32) * v3) + v4) 256 ∧
      vp_in (((16 : Int32) * v3) + v4) 256 ∧
      vp_in v4 16 ∧
      ∀ x9 : Int32, x9 = v4 + (1 : Int32) →
      rec x9 (upd p0_come v4.toNatClampNeg (((p0_field (((16 : Int32) * v1) + v4).toNatClampNeg) + (p0_puts (((16 : Int32) * v3) + v4).toNatClampNeg)) - (p0_takes (((16 : Int32) * v3) + v4).toNatClampNeg))))
def w_X10_expand_L42 (v1 : Int32) (v2 : Int32) (v3 : Int32) (p0_fieldSize : Int32) (p0_places : Int32) (p0_steps : Int32) (p0_by : Nat → Int32) (p0_closes : Nat → Int32) (p0_field : Nat → Int32) (p0_former : Nat → Int32) (p0_needs : Nat → Int32) (p0_next : Nat → Int32) (p0_order : Nat → Int32) (p0_puts : Nat → Int32) (p0_sort : Nat → Int32) (p0_takes : Nat → Int32) (post : Int32 → (Int32) → (Nat → Int32) → (Nat → Int32) → (Nat → Int32) → (Nat → Int32) → (Nat → Int32) → (Nat → Int32) → Prop) (K : (Int32) → (Nat → Int32) → Prop) : Nat → (Int32) → (Nat → Int32) → Prop
  | 0, _, _ => False
  | n + 1, v4, p0_come => w_X10_expand_L42b v1 v2 v3 p0_fieldSize p0_places p0_steps p0_by p0_closes p0_field p0_former p0_needs p0_next p0_order p0_puts p0_sort p0_takes post K (w_X10_expand_L42 v1 v2 v3 p0_fieldSize p0_places p0_steps p0_by p0_closes p0_field p0_former p0_needs p0_next p0_order p0_puts p0_sort p0_takes post K n) v4 p0_come
def w_X10_expand_L2b (v1 : Int32) (v2 : Int32) (p0_places : Int32) (p0_steps : Int32) (p0_closes : Nat → Int32) (p0_needs : Nat → Int32) (p0_puts : Nat → Int32) (p0_sort : Nat → Int32) (p0_takes : Nat → Int32) (post : Int32 → (Int32) → (Nat → Int32) → (Nat → Int32) → (Nat → Int32) → (Nat → Int32) → (Nat → Int32) → (Nat → Int32) → Prop) (K : (Int32) → (Int32) → (Nat → Int32) → (Nat → Int32) → (Nat → Int32) → (Nat → Int32) → (Nat → Int32) → (Nat → Int32) → Prop) (rec : (Int32) → (Int32) → (Nat → Int32) → (Nat → Int32) → (Nat → Int32) → (Nat → Int32) → (Nat → Int32) → (Nat → Int32) → Prop) (v3 : Int32) (p0_fieldSize : Int32) (p0_by : Nat → Int32) (p0_come : Nat → Int32) (p0_field : Nat → Int32) (p0_former : Nat → Int32) (p0_next : Nat → Int32) (p0_order : Nat → Int32) : Prop :=
    (p0_steps ≤ v3 →
      K v3 p0_fieldSize p0_by p0_come p0_field p0_former p0_next p0_order) ∧
    (¬ p0_steps ≤ v3 →
      vp_in (((16 : Int32) * v1) + v3) 128000 ∧
      w_X10_goes 128000 p0_places p0_steps p0_closes p0_needs p0_sort p0_takes p0_field v3 ((16 : Int32) * v1) (fun r3 =>
      (r3 = 0 →
        ∀ x6 : Int32, x6 = v3 + (1 : Int32) →
        rec x6 p0_fieldSize p0_by p0_come p0_field p0_former (upd p0_next (((16 : Int32) * v1) + v3).toNatClampNeg (-2000000005 : Int32)) p0_order) ∧
      (¬ r3 = 0 →
        ∃ n : Nat, w_X10_expand_L42 v1 v2 v3 p0_fieldSize p0_places p0_steps p0_by p0_closes p0_field p0_former p0_needs (upd p0_next (((16 : Int32) * v1) + v3).toNatClampNeg (-2000000005 : Int32)) p0_order p0_puts p0_sort p0_takes post (fun v11 s12 =>
            w_X10_numberOf p0_fieldSize p0_places s12 p0_field p0_order (fun r13 =>
            (¬ r13 = (-2000000005 : Int32) →
              w_X10_numberOf p0_fieldSize p0_places s12 p0_field p0_order (fun r16 =>
              vp_in (((16 : Int32) * v1) + v3) 128000 ∧
              ∀ x17 : Int32, x17 = v3 + (1 : Int32) →
              rec x17 p0_fieldSize p0_by s12 p0_field p0_former (upd (upd p0_next (((16 : Int32) * v1) + v3).toNatClampNeg (-2000000005 : Int32)) (((16 : Int32) * v1) + v3).toNatClampNeg r16) p0_order)) ∧
            (r13 = (-2000000005 : Int32) →
              (¬ p0_fieldSize = v2 →
                w_X10_addMarking p0_fieldSize p0_places p0_by s12 p0_field p0_former p0_order v1 v3 (fun y20 y21 y22 y23 y24 =>
                w_X10_numberOf y20 p0_places s12 y22 y24 (fun r25 =>
                vp_in (((16 : Int32) * v1) + v3) 128000 ∧
                ∀ x26 : Int32, x26 = v3 + (1 : Int32) →
                rec x26 y20 y21 s12 y22 y23 (upd (upd p0_next (((16 : Int32) * v1) + v3).toNatClampNeg (-2000000005 : Int32)) (((16 : Int32) * v1) + v3).toNatClampNeg r25) y24))) ∧
              (p0_fieldSize = v2 →
                (post (0 : Int32) p0_fieldSize p0_by s12 p0_field p0_former (upd p0_next (((16 : Int32) * v1) + v3).toNatClampNeg (-2000000005 : Int32)) p0_order))))) n (0 : Int32) p0_come)))
def w_X10_expand_L2 (v1 : Int32) (v2 : Int32) (p0_places : Int32) (p0_steps : Int32) (p0_closes : Nat → Int32) (p0_needs : Nat → Int32) (p0_puts : Nat → Int32) (p0_sort : Nat → Int32) (p0_takes : Nat → Int32) (post : Int32 → (Int32) → (Nat → Int32) → (Nat → Int32) → (Nat → Int32) → (Nat → Int32) → (Nat → Int32) → (Nat → Int32) → Prop) (K : (Int32) → (Int32) → (Nat → Int32) → (Nat → Int32) → (Nat → Int32) → (Nat → Int32) → (Nat → Int32) → (Nat → Int32) → Prop) : Nat → (Int32) → (Int32) → (Nat → Int32) → (Nat → Int32) → (Nat → Int32) → (Nat → Int32) → (Nat → Int32) → (Nat → Int32) → Prop
  | 0, _, _, _, _, _, _, _, _ => False
  | n + 1, v3, p0_fieldSize, p0_by, p0_come, p0_field, p0_former, p0_next, p0_order => w_X10_expand_L2b v1 v2 p0_places p0_steps p0_closes p0_needs p0_puts p0_sort p0_takes post K (w_X10_expand_L2 v1 v2 p0_places p0_steps p0_closes p0_needs p0_puts p0_sort p0_takes post K n) v3 p0_fieldSize p0_by p0_come p0_field p0_former p0_next p0_order
def w_X10_expand (p0_fieldSize : Int32) (p0_places : Int32) (p0_steps : Int32) (p0_by : Nat → Int32) (p0_closes : Nat → Int32) (p0_come : Nat → Int32) (p0_field : Nat → Int32) (p0_former : Nat → Int32) (p0_needs : Nat → Int32) (p0_next : Nat → Int32) (p0_order : Nat → Int32) (p0_puts : Nat → Int32) (p0_sort : Nat → Int32) (p0_takes : Nat → Int32) (a1 : Int32) (a2 : Int32) (post : Int32 → (Int32) → (Nat → Int32) → (Nat → Int32) → (Nat → Int32) → (Nat → Int32) → (Nat → Int32) → (Nat → Int32) → Prop) : Prop :=
  ∃ n : Nat, w_X10_expand_L2 a1 a2 p0_places p0_steps p0_closes p0_needs p0_puts p0_sort p0_takes post (fun v28 s29 s30 s31 s32 s33 s34 s35 =>
      (post (1 : Int32) s29 s30 s31 s32 s33 s34 s35)) n (0 : Int32) p0_fieldSize p0_by p0_come p0_field p0_former p0_next p0_order
set_option maxHeartbeats 4000000 in
set_option maxRecDepth 100000 in
theorem c_X10_expand_L42 {p : Program} {l : Launch} {e : Env} {s : State} {m : MethodId} {args : Array Value} {below : List Frame} {meth : Method} {c : Code} {dC : Nat → ClassId} {dI : Nat → Nat → Nat} {A : Nat → Prop} {cI cJ cZ : ClassId} {h_p0 : Nat} {ad_p0 : Nat → Nat} {p0_places : Int32} {p0_steps : Int32} {p0_pastFirst : Int32} {p0_past : Int32} {p0_goings : Int32} {p0_rowSize : Int32} {p0_ways : Int32} {p0_hasField : Int32} {p0_fieldSize : Int32} {p0_faultNow : Int32} {p0_hasTree : Int32} {p0_treeSize : Int32} {p0_weightCount : Int32} {p0_roundCount : Int32} {p0_setCount : Int32} {p0_by : Nat → Int32} {p0_closes : Nat → Int32} {p0_field : Nat → Int32} {p0_former : Nat → Int32} {p0_needs : Nat → Int32} {p0_next : Nat → Int32} {p0_order : Nat → Int32} {p0_puts : Nat → Int32} {p0_sort : Nat → Int32} {p0_takes : Nat → Int32} {v1 : Int32} {v2 : Int32} {v3 : Int32} {z_p0_come : Nat → Int32} {post : Int32 → (Int32) → (Nat → Int32) → (Nat → Int32) → (Nat → Int32) → (Nat → Int32) → (Nat → Int32) → (Nat → Int32) → Prop} {K : (Int32) → (Nat → Int32) → Prop} (E0 : xEnv p s m args meth c cX10_expand (some .boolean) 5 RX10 wsX10_expand (dC, dI) cI cJ cZ A) (hk : ∀ (v4 : Int32) (p0_come : Nat → Int32) (H : Heap) (locs : List Loc) (ls : Array Slot), K v4 p0_come → va_P (dC, dI) vwCl (wld_X10_expand cI cJ cZ h_p0 ad_p0 p0_places p0_steps p0_pastFirst p0_past p0_goings p0_rowSize p0_ways p0_hasField p0_fieldSize p0_faultNow p0_hasTree p0_treeSize p0_weightCount p0_roundCount p0_setCount p0_by p0_closes p0_come p0_field p0_former p0_needs p0_next p0_order p0_puts p0_sort p0_takes) H → va_D A (wld_X10_expand cI cJ cZ h_p0 ad_p0 p0_places p0_steps p0_pastFirst p0_past p0_goings p0_rowSize p0_ways p0_hasField p0_fieldSize p0_faultNow p0_hasTree p0_treeSize p0_weightCount p0_roundCount p0_setCount p0_by p0_closes p0_come p0_field p0_former p0_needs p0_next p0_order p0_puts p0_sort p0_takes) → va_S A s.heap H locs → lv_has ls 5 [(0, .ref h_p0), (1, .int v1), (2, .int v2), (3, .int v3)] → W p l e ({ frames := 3, cells := 0, slots := 0, locals := 76 }) s m args below meth c H locs 0 0 (MQ below (q_X10_expand dC dI cI cJ cZ h_p0 ad_p0 p0_places p0_steps p0_pastFirst p0_past p0_goings p0_rowSize p0_ways p0_hasField p0_fieldSize p0_faultNow p0_hasTree p0_treeSize p0_weightCount p0_roundCount p0_setCount p0_by p0_closes z_p0_come p0_field p0_former p0_needs p0_next p0_order p0_puts p0_sort p0_takes post A) args s 0 0 A) (F0 m 102 ls [])) : ∀ (n : Nat) (v4 : Int32) (p0_come : Nat → Int32), w_X10_expand_L42 v1 v2 v3 p0_fieldSize p0_places p0_steps p0_by p0_closes p0_field p0_former p0_needs p0_next p0_order p0_puts p0_sort p0_takes post K n v4 p0_come → ∀ (H : Heap) (locs : List Loc) (ls : Array Slot), va_P (dC, dI) vwCl (wld_X10_expand cI cJ cZ h_p0 ad_p0 p0_places p0_steps p0_pastFirst p0_past p0_goings p0_rowSize p0_ways p0_hasField p0_fieldSize p0_faultNow p0_hasTree p0_treeSize p0_weightCount p0_roundCount p0_setCount p0_by p0_closes p0_come p0_field p0_former p0_needs p0_next p0_order p0_puts p0_sort p0_takes) H → va_D A (wld_X10_expand cI cJ cZ h_p0 ad_p0 p0_places p0_steps p0_pastFirst p0_past p0_goings p0_rowSize p0_ways p0_hasField p0_fieldSize p0_faultNow p0_hasTree p0_treeSize p0_weightCount p0_roundCount p0_setCount p0_by p0_closes p0_come p0_field p0_former p0_needs p0_next p0_order p0_puts p0_sort p0_takes) → va_S A s.heap H locs → lv_has ls 5 [(0, .ref h_p0), (1, .int v1), (2, .int v2), (3, .int v3), (4, .int v4)] → W p l e ({ frames := 3, cells := 0, slots := 0, locals := 76 }) s m args below meth c H locs 0 0 (MQ below (q_X10_expand dC dI cI cJ cZ h_p0 ad_p0 p0_places p0_steps p0_pastFirst p0_past p0_goings p0_rowSize p0_ways p0_hasField p0_fieldSize p0_faultNow p0_hasTree p0_treeSize p0_weightCount p0_roundCount p0_setCount p0_by p0_closes z_p0_come p0_field p0_former p0_needs p0_next p0_order p0_puts p0_sort p0_takes post A) args s 0 0 A) (F0 m 42 ls []) := by
  obtain ⟨hx, hb, hr, hml, hown, hts, hlocks, hK, hA, n1, n2⟩ := id E0
  have iX10 : ∀ w ∈ u_ws RX10 TX10 50, w ∈ wsX10_expand := fun w h => List.mem_cons_of_mem _ (List.mem_append_right _ h)
  intro n
  induction n with
  | zero => intro v4 p0_come hw; exact hw.elim
  | succ n ih =>
    intro v4 p0_come hw H locs ls hP hD hS hl
    have hw : w_X10_expand_L42b v1 v2 v3 p0_fieldSize p0_places p0_steps p0_by p0_closes p0_field p0_former p0_needs p0_next p0_order p0_puts p0_sort p0_takes post K (w_X10_expand_L42 v1 v2 v3 p0_fieldSize p0_places p0_steps p0_by p0_closes p0_field p0_former p0_needs p0_next p0_order p0_puts p0_sort p0_takes post K n) v4 p0_come := hw
    unfold w_X10_expand_L42b at hw
    refine lv_iload hx hb dX10_expand_42 (lv_at hl 4 rfl) ?_
    refine lv_aload_n hx hb dX10_expand_44 rfl (lv_at hl 0 rfl) ?_
    refine va_get (D := (dC, dI)) (ci := 10) (v := .int p0_places) (C := RX10) (T := TX10) (N := 50) hx hb hts iX10 hown hK hP 0 rfl rfl 0 (by decide) (hts (.fieldLink RX10 127 "NetHouseModel" "places" "I") (by decide +kernel)) (fun _ h9 => h9) rfl dX10_expand_45 ?_
    refine lv_icmp_ge (tgt := 102) hx hb dX10_expand_48 (by decide) (fun c7 => ?_) (fun c8 => ?_)
    · have hw := hw.1 c7
      exact hk _ _ _ _ _ hw hP hD hS (lv_sub hl [0, 1, 2, 3] rfl)
    · have hw := hw.2 c8
      refine lv_aload_n hx hb dX10_expand_51 rfl (lv_at hl 0 rfl) ?_
      refine va_get (D := (dC, dI)) (ci := 10) (v := .ref (ad_p0 31)) (C := RX10) (T := TX10) (N := 50) hx hb hts iX10 hown hK hP 0 rfl rfl 31 (by decide) (hts (.fieldLink RX10 78 "NetHouseModel" "come" "[I") (by decide +kernel)) (fun _ h9 => h9) rfl dX10_expand_52 ?_
      refine lv_iload hx hb dX10_expand_55 (lv_at hl 4 rfl) ?_
      refine lv_aload_n hx hb dX10_expand_57 rfl (lv_at hl 0 rfl) ?_
      refine va_get (D := (dC, dI)) (ci := 10) (v := .ref (ad_p0 26)) (C := RX10) (T := TX10) (N := 50) hx hb hts iX10 hown hK hP 0 rfl rfl 26 (by decide) (hts (.fieldLink RX10 63 "NetHouseModel" "field" "[I") (by decide +kernel)) (fun _ h9 => h9) rfl dX10_expand_58 ?_
      refine lv_bipush (v := 16) hx hb dX10_expand_61 (by decide) ?_
      refine lv_iload_n hx hb dX10_expand_63 rfl (lv_at hl 1 rfl) ?_
      refine lv_imul hx hb dX10_expand_64 ?_
      refine lv_iload hx hb dX10_expand_65 (lv_at hl 4 rfl) ?_
      refine lv_iadd hx hb dX10_expand_67 ?_
      refine va_iald hx hb hK hP 4 0 rfl rfl hw.1 dX10_expand_68 ?_
      have hw := hw.2
      refine lv_aload_n hx hb dX10_expand_69 rfl (lv_at hl 0 rfl) ?_
      refine va_get (D := (dC, dI)) (ci := 10) (v := .ref (ad_p0 5)) (C := RX10) (T := TX10) (N := 50) hx hb hts iX10 hown hK hP 0 rfl rfl 5 (by decide) (hts (.fieldLink RX10 19 "NetHouseModel" "puts" "[I") (by decide +kernel)) (fun _ h9 => h9) rfl dX10_expand_70 ?_
      refine lv_bipush (v := 16) hx hb dX10_expand_73 (by decide) ?_
      refine lv_iload_n hx hb dX10_expand_75 rfl (lv_at hl 3 rfl) ?_
      refine lv_imul hx hb dX10_expand_76 ?_
      refine lv_iload hx hb dX10_expand_77 (lv_at hl 4 rfl) ?_
      refine lv_iadd hx hb dX10_expand_79 ?_
      refine va_iald hx hb hK hP 9 0 rfl rfl hw.1 dX10_expand_80 ?_
      have hw := hw.2
      refine lv_iadd hx hb dX10_expand_81 ?_
      refine lv_aload_n hx hb dX10_expand_82 rfl (lv_at hl 0 rfl) ?_
      refine va_get (D := (dC, dI)) (ci := 10) (v := .ref (ad_p0 4)) (C := RX10) (T := TX10) (N := 50) hx hb hts iX10 hown hK hP 0 rfl rfl 4 (by decide) (hts (.fieldLink RX10 16 "NetHouseModel" "takes" "[I") (by decide +kernel)) (fun _ h9 => h9) rfl dX10_expand_83 ?_
      refine lv_bipush (v := 16) hx hb dX10_expand_86 (by decide) ?_
      refine lv_iload_n hx hb dX10_expand_88 rfl (lv_at hl 3 rfl) ?_
      refine lv_imul hx hb dX10_expand_89 ?_
      refine lv_iload hx hb dX10_expand_90 (lv_at hl 4 rfl) ?_
      refine lv_iadd hx hb dX10_expand_92 ?_
      refine va_iald hx hb hK hP 11 0 rfl rfl hw.1 dX10_expand_93 ?_
      have hw := hw.2
      refine lv_isub hx hb dX10_expand_94 ?_
      refine va_iast hx hb hK hP hD hS 3 0 rfl rfl hw.1 dX10_expand_95 (fun H locs hP hD hS => ?_)
      have hw := hw.2
      have hP : va_P (dC, dI) vwCl (wld_X10_expand cI cJ cZ h_p0 ad_p0 p0_places p0_steps p0_pastFirst p0_past p0_goings p0_rowSize p0_ways p0_hasField p0_fieldSize p0_faultNow p0_hasTree p0_treeSize p0_weightCount p0_roundCount p0_setCount p0_by p0_closes (upd p0_come v4.toNatClampNeg (((p0_field (((16 : Int32) * v1) + v4).toNatClampNeg) + (p0_puts (((16 : Int32) * v3) + v4).toNatClampNeg)) - (p0_takes (((16 : Int32) * v3) + v4).toNatClampNeg))) p0_field p0_former p0_needs p0_next p0_order p0_puts p0_sort p0_takes) H := hP
      have hD : va_D A (wld_X10_expand cI cJ cZ h_p0 ad_p0 p0_places p0_steps p0_pastFirst p0_past p0_goings p0_rowSize p0_ways p0_hasField p0_fieldSize p0_faultNow p0_hasTree p0_treeSize p0_weightCount p0_roundCount p0_setCount p0_by p0_closes (upd p0_come v4.toNatClampNeg (((p0_field (((16 : Int32) * v1) + v4).toNatClampNeg) + (p0_puts (((16 : Int32) * v3) + v4).toNatClampNeg)) - (p0_takes (((16 : Int32) * v3) + v4).toNatClampNeg))) p0_field p0_former p0_needs p0_next p0_order p0_puts p0_sort p0_takes) := hD
      obtain ⟨x9, ex9⟩ : ∃ y : Int32, y = v4 + (1 : Int32) := ⟨_, rfl⟩
      have hw := hw x9 ex9
      refine lv_iinc (v := x9) (lv' := [(4, .int x9), (0, .ref h_p0), (1, .int v1), (2, .int v2), (3, .int v3)]) hx hb dX10_expand_96 hl (k := 4) rfl (by rw [ex9]; rfl) (by decide) rfl (fun ls hl => ?_)
      refine lv_goto (tgt := 42) hx hb dX10_expand_99 (by decide) ?_
      exact ih _ _ hw _ _ _ hP hD hS (lv_sub hl [1, 2, 3, 4, 0] rfl)
set_option maxHeartbeats 4000000 in
set_option maxRecDepth 100000 in
theorem c_X10_expand_L2 {p : Program} {l : Launch} {e : Env} {s : State} {m : MethodId} {args : Array Value} {below : List Frame} {meth : Method} {c : Code} {dC : Nat → ClassId} {dI : Nat → Nat → Nat} {A : Nat → Prop} {cI cJ cZ : ClassId} {h_p0 : Nat} {ad_p0 : Nat → Nat} {p0_places : Int32} {p0_steps : Int32} {p0_pastFirst : Int32} {p0_past : Int32} {p0_goings : Int32} {p0_rowSize : Int32} {p0_ways : Int32} {p0_hasField : Int32} {p0_faultNow : Int32} {p0_hasTree : Int32} {p0_treeSize : Int32} {p0_weightCount : Int32} {p0_roundCount : Int32} {p0_setCount : Int32} {p0_closes : Nat → Int32} {p0_needs : Nat → Int32} {p0_puts : Nat → Int32} {p0_sort : Nat → Int32} {p0_takes : Nat → Int32} {v1 : Int32} {v2 : Int32} {z_p0_fieldSize : Int32} {z_p0_by : Nat → Int32} {z_p0_come : Nat → Int32} {z_p0_field : Nat → Int32} {z_p0_former : Nat → Int32} {z_p0_next : Nat → Int32} {z_p0_order : Nat → Int32} {post : Int32 → (Int32) → (Nat → Int32) → (Nat → Int32) → (Nat → Int32) → (Nat → Int32) → (Nat → Int32) → (Nat → Int32) → Prop} {K : (Int32) → (Int32) → (Nat → Int32) → (Nat → Int32) → (Nat → Int32) → (Nat → Int32) → (Nat → Int32) → (Nat → Int32) → Prop} (E0 : xEnv p s m args meth c cX10_expand (some .boolean) 5 RX10 wsX10_expand (dC, dI) cI cJ cZ A) (hk : ∀ (v3 : Int32) (p0_fieldSize : Int32) (p0_by : Nat → Int32) (p0_come : Nat → Int32) (p0_field : Nat → Int32) (p0_former : Nat → Int32) (p0_next : Nat → Int32) (p0_order : Nat → Int32) (H : Heap) (locs : List Loc) (ls : Array Slot), K v3 p0_fieldSize p0_by p0_come p0_field p0_former p0_next p0_order → va_P (dC, dI) vwCl (wld_X10_expand cI cJ cZ h_p0 ad_p0 p0_places p0_steps p0_pastFirst p0_past p0_goings p0_rowSize p0_ways p0_hasField p0_fieldSize p0_faultNow p0_hasTree p0_treeSize p0_weightCount p0_roundCount p0_setCount p0_by p0_closes p0_come p0_field p0_former p0_needs p0_next p0_order p0_puts p0_sort p0_takes) H → va_D A (wld_X10_expand cI cJ cZ h_p0 ad_p0 p0_places p0_steps p0_pastFirst p0_past p0_goings p0_rowSize p0_ways p0_hasField p0_fieldSize p0_faultNow p0_hasTree p0_treeSize p0_weightCount p0_roundCount p0_setCount p0_by p0_closes p0_come p0_field p0_former p0_needs p0_next p0_order p0_puts p0_sort p0_takes) → va_S A s.heap H locs → lv_has ls 5 [] → W p l e ({ frames := 3, cells := 0, slots := 0, locals := 76 }) s m args below meth c H locs 0 0 (MQ below (q_X10_expand dC dI cI cJ cZ h_p0 ad_p0 p0_places p0_steps p0_pastFirst p0_past p0_goings p0_rowSize p0_ways p0_hasField z_p0_fieldSize p0_faultNow p0_hasTree p0_treeSize p0_weightCount p0_roundCount p0_setCount z_p0_by p0_closes z_p0_come z_p0_field z_p0_former p0_needs z_p0_next z_p0_order p0_puts p0_sort p0_takes post A) args s 0 0 A) (F0 m 148 ls [])) : ∀ (n : Nat) (v3 : Int32) (p0_fieldSize : Int32) (p0_by : Nat → Int32) (p0_come : Nat → Int32) (p0_field : Nat → Int32) (p0_former : Nat → Int32) (p0_next : Nat → Int32) (p0_order : Nat → Int32), w_X10_expand_L2 v1 v2 p0_places p0_steps p0_closes p0_needs p0_puts p0_sort p0_takes post K n v3 p0_fieldSize p0_by p0_come p0_field p0_former p0_next p0_order → ∀ (H : Heap) (locs : List Loc) (ls : Array Slot), va_P (dC, dI) vwCl (wld_X10_expand cI cJ cZ h_p0 ad_p0 p0_places p0_steps p0_pastFirst p0_past p0_goings p0_rowSize p0_ways p0_hasField p0_fieldSize p0_faultNow p0_hasTree p0_treeSize p0_weightCount p0_roundCount p0_setCount p0_by p0_closes p0_come p0_field p0_former p0_needs p0_next p0_order p0_puts p0_sort p0_takes) H → va_D A (wld_X10_expand cI cJ cZ h_p0 ad_p0 p0_places p0_steps p0_pastFirst p0_past p0_goings p0_rowSize p0_ways p0_hasField p0_fieldSize p0_faultNow p0_hasTree p0_treeSize p0_weightCount p0_roundCount p0_setCount p0_by p0_closes p0_come p0_field p0_former p0_needs p0_next p0_order p0_puts p0_sort p0_takes) → va_S A s.heap H locs → lv_has ls 5 [(0, .ref h_p0), (1, .int v1), (2, .int v2), (3, .int v3)] → W p l e ({ frames := 3, cells := 0, slots := 0, locals := 76 }) s m args below meth c H locs 0 0 (MQ below (q_X10_expand dC dI cI cJ cZ h_p0 ad_p0 p0_places p0_steps p0_pastFirst p0_past p0_goings p0_rowSize p0_ways p0_hasField z_p0_fieldSize p0_faultNow p0_hasTree p0_treeSize p0_weightCount p0_roundCount p0_setCount z_p0_by p0_closes z_p0_come z_p0_field z_p0_former p0_needs z_p0_next z_p0_order p0_puts p0_sort p0_takes post A) args s 0 0 A) (F0 m 2 ls []) := by
  obtain ⟨hx, hb, hr, hml, hown, hts, hlocks, hK, hA, n1, n2⟩ := id E0
  have iX10 : ∀ w ∈ u_ws RX10 TX10 50, w ∈ wsX10_expand := fun w h => List.mem_cons_of_mem _ (List.mem_append_right _ h)
  intro n
  induction n with
  | zero => intro v3 p0_fieldSize p0_by p0_come p0_field p0_former p0_next p0_order hw; exact hw.elim
  | succ n ih =>
    intro v3 p0_fieldSize p0_by p0_come p0_field p0_former p0_next p0_order hw H locs ls hP hD hS hl
    have hw : w_X10_expand_L2b v1 v2 p0_places p0_steps p0_closes p0_needs p0_puts p0_sort p0_takes post K (w_X10_expand_L2 v1 v2 p0_places p0_steps p0_closes p0_needs p0_puts p0_sort p0_takes post K n) v3 p0_fieldSize p0_by p0_come p0_field p0_former p0_next p0_order := hw
    unfold w_X10_expand_L2b at hw
    refine lv_iload_n hx hb dX10_expand_2 rfl (lv_at hl 3 rfl) ?_
    refine lv_aload_n hx hb dX10_expand_3 rfl (lv_at hl 0 rfl) ?_
    refine va_get (D := (dC, dI)) (ci := 10) (v := .int p0_steps) (C := RX10) (T := TX10) (N := 50) hx hb hts iX10 hown hK hP 0 rfl rfl 1 (by decide) (hts (.fieldLink RX10 130 "NetHouseModel" "steps" "I") (by decide +kernel)) (fun _ h9 => h9) rfl dX10_expand_4 ?_
    refine lv_icmp_ge (tgt := 148) hx hb dX10_expand_7 (by decide) (fun c1 => ?_) (fun c2 => ?_)
    · have hw := hw.1 c1
      exact hk _ _ _ _ _ _ _ _ _ _ _ hw hP hD hS (lv_sub hl [] rfl)
    · have hw := hw.2 c2
      refine lv_aload_n hx hb dX10_expand_10 rfl (lv_at hl 0 rfl) ?_
      refine va_get (D := (dC, dI)) (ci := 10) (v := .ref (ad_p0 30)) (C := RX10) (T := TX10) (N := 50) hx hb hts iX10 hown hK hP 0 rfl rfl 30 (by decide) (hts (.fieldLink RX10 75 "NetHouseModel" "next" "[I") (by decide +kernel)) (fun _ h9 => h9) rfl dX10_expand_11 ?_
      refine lv_bipush (v := 16) hx hb dX10_expand_14 (by decide) ?_
      refine lv_iload_n hx hb dX10_expand_16 rfl (lv_at hl 1 rfl) ?_
      refine lv_imul hx hb dX10_expand_17 ?_
      refine lv_iload_n hx hb dX10_expand_18 rfl (lv_at hl 3 rfl) ?_
      refine lv_iadd hx hb dX10_expand_19 ?_
      refine lv_ldc (v := -2000000005) hx hb hown (hts (.constant RX10 85 (-2000000005)) (by decide +kernel)) dX10_expand_20 ?_
      refine va_iast hx hb hK hP hD hS 7 0 rfl rfl hw.1 dX10_expand_22 (fun H locs hP hD hS => ?_)
      have hw := hw.2
      have hP : va_P (dC, dI) vwCl (wld_X10_expand cI cJ cZ h_p0 ad_p0 p0_places p0_steps p0_pastFirst p0_past p0_goings p0_rowSize p0_ways p0_hasField p0_fieldSize p0_faultNow p0_hasTree p0_treeSize p0_weightCount p0_roundCount p0_setCount p0_by p0_closes p0_come p0_field p0_former p0_needs (upd p0_next (((16 : Int32) * v1) + v3).toNatClampNeg (-2000000005 : Int32)) p0_order p0_puts p0_sort p0_takes) H := hP
      have hD : va_D A (wld_X10_expand cI cJ cZ h_p0 ad_p0 p0_places p0_steps p0_pastFirst p0_past p0_goings p0_rowSize p0_ways p0_hasField p0_fieldSize p0_faultNow p0_hasTree p0_treeSize p0_weightCount p0_roundCount p0_setCount p0_by p0_closes p0_come p0_field p0_former p0_needs (upd p0_next (((16 : Int32) * v1) + v3).toNatClampNeg (-2000000005 : Int32)) p0_order p0_puts p0_sort p0_takes) := hD
      refine lv_aload_n hx hb dX10_expand_23 rfl (lv_at hl 0 rfl) ?_
      refine lv_iload_n hx hb dX10_expand_24 rfl (lv_at hl 3 rfl) ?_
      refine lv_aload_n hx hb dX10_expand_25 rfl (lv_at hl 0 rfl) ?_
      refine va_get (D := (dC, dI)) (ci := 10) (v := .ref (ad_p0 26)) (C := RX10) (T := TX10) (N := 50) hx hb hts iX10 hown hK hP 0 rfl rfl 26 (by decide) (hts (.fieldLink RX10 63 "NetHouseModel" "field" "[I") (by decide +kernel)) (fun _ h9 => h9) rfl dX10_expand_26 ?_
      refine lv_bipush (v := 16) hx hb dX10_expand_29 (by decide) ?_
      refine lv_iload_n hx hb dX10_expand_31 rfl (lv_at hl 1 rfl) ?_
      refine lv_imul hx hb dX10_expand_32 ?_
      obtain ⟨hPc, hDc⟩ := x_sub (wc := (wld_X10_goes cI cJ cZ h_p0 (ad_p0 26) ad_p0 128000 p0_places p0_steps p0_pastFirst p0_past p0_goings p0_rowSize p0_ways p0_hasField p0_fieldSize p0_faultNow p0_hasTree p0_treeSize p0_weightCount p0_roundCount p0_setCount p0_closes p0_needs p0_sort p0_takes p0_field)) hP hD [0, 2, 6, 10, 11, 4] (n := 12) rfl rfl (by decide +kernel)
      refine x_calli (ws' := fun (u : Unit) => (wld_X10_expand cI cJ cZ h_p0 ad_p0 p0_places p0_steps p0_pastFirst p0_past p0_goings p0_rowSize p0_ways p0_hasField p0_fieldSize p0_faultNow p0_hasTree p0_treeSize p0_weightCount p0_roundCount p0_setCount p0_by p0_closes p0_come p0_field p0_former p0_needs (upd p0_next (((16 : Int32) * v1) + v3).toNatClampNeg (-2000000005 : Int32)) p0_order p0_puts p0_sort p0_takes)) hP hD hS hA [0, 2, 6, 10, 11, 4] [1, 3, 5, 7, 8, 9] [6, 0, 7, 1, 11, 2, 8, 3, 4, 5, 9, 10] (n := 12) (k := 6) rfl (fun _ => rfl) rfl (by decide +kernel) (fun _ => rfl) (va_runV (As := [.int v3, .ref (ad_p0 26), .int ((16 : Int32) * v1)]) (rest := []) ⟨hx, hb, hml, hown, hts⟩ (c_X10_goes (l := l) (dC := dC) (dI := dI) (cI := cI) (cJ := cJ) (cZ := cZ) (sz := H.size) (h_p0 := h_p0) (h_p2 := (ad_p0 26)) (ad_p0 := ad_p0) (n_p2 := 128000) (p0_places := p0_places) (p0_steps := p0_steps) (p0_pastFirst := p0_pastFirst) (p0_past := p0_past) (p0_goings := p0_goings) (p0_rowSize := p0_rowSize) (p0_ways := p0_ways) (p0_hasField := p0_hasField) (p0_fieldSize := p0_fieldSize) (p0_faultNow := p0_faultNow) (p0_hasTree := p0_hasTree) (p0_treeSize := p0_treeSize) (p0_weightCount := p0_weightCount) (p0_roundCount := p0_roundCount) (p0_setCount := p0_setCount) (p0_closes := p0_closes) (p0_needs := p0_needs) (p0_sort := p0_sort) (p0_takes := p0_takes) (p2 := p0_field) hw) (cwV 3 hts gX10_expand_X10_goes rfl rfl rfl (by decide +kernel) ⟨Nat.le_of_ble_eq_true rfl, Nat.le_of_ble_eq_true rfl⟩) ⟨xPre_blind, va_recv hK hP (ci := 10) (q0 := 0) rfl rfl, xPre_at hK hPc hDc n1 n2⟩ rfl rfl hl.1 rfl (lv_room (Nat.le_of_ble_eq_true rfl)) dX10_expand_33 ⟨Nat.zero_le _, Nat.zero_le _⟩) (fun r3 u H locs hw hP hD hS => ?_)
      try dsimp only at hw
      have hP : va_P (dC, dI) vwCl (wld_X10_expand cI cJ cZ h_p0 ad_p0 p0_places p0_steps p0_pastFirst p0_past p0_goings p0_rowSize p0_ways p0_hasField p0_fieldSize p0_faultNow p0_hasTree p0_treeSize p0_weightCount p0_roundCount p0_setCount p0_by p0_closes p0_come p0_field p0_former p0_needs (upd p0_next (((16 : Int32) * v1) + v3).toNatClampNeg (-2000000005 : Int32)) p0_order p0_puts p0_sort p0_takes) H := hP
      have hD : va_D A (wld_X10_expand cI cJ cZ h_p0 ad_p0 p0_places p0_steps p0_pastFirst p0_past p0_goings p0_rowSize p0_ways p0_hasField p0_fieldSize p0_faultNow p0_hasTree p0_treeSize p0_weightCount p0_roundCount p0_setCount p0_by p0_closes p0_come p0_field p0_former p0_needs (upd p0_next (((16 : Int32) * v1) + v3).toNatClampNeg (-2000000005 : Int32)) p0_order p0_puts p0_sort p0_takes) := hD
      refine lv_if_eq (tgt := 142) hx hb dX10_expand_36 (by decide) (fun c4 => ?_) (fun c5 => ?_)
      · have hw := hw.1 c4
        obtain ⟨x6, ex6⟩ : ∃ y : Int32, y = v3 + (1 : Int32) := ⟨_, rfl⟩
        have hw := hw x6 ex6
        refine lv_iinc (v := x6) (lv' := [(3, .int x6), (0, .ref h_p0), (1, .int v1), (2, .int v2)]) hx hb dX10_expand_142 hl (k := 3) rfl (by rw [ex6]; rfl) (by decide) rfl (fun ls hl => ?_)
        refine lv_goto (tgt := 2) hx hb dX10_expand_145 (by decide) ?_
        exact ih _ _ _ _ _ _ _ _ hw _ _ _ hP hD hS (lv_sub hl [1, 2, 3, 0] rfl)
      · have hw := hw.2 c5
        refine lv_iconst (v := 0) hx hb dX10_expand_39 (by decide) ?_
        refine lv_istore (lv' := [(4, .int (0 : Int32)), (0, .ref h_p0), (1, .int v1), (2, .int v2), (3, .int v3)]) hx hb dX10_expand_40 hl (by decide) rfl (fun ls hl => ?_)
        obtain ⟨n10, hw⟩ := hw
        refine c_X10_expand_L42 (l := l) (z_p0_come := p0_come) E0 ?_ n10 _ _ hw _ _ _ hP hD hS (lv_sub hl [1, 2, 3, 4, 0] rfl)
        · intro v11 s12 H locs ls hw hP hD hS hl
          have hP : va_P (dC, dI) vwCl (wld_X10_expand cI cJ cZ h_p0 ad_p0 p0_places p0_steps p0_pastFirst p0_past p0_goings p0_rowSize p0_ways p0_hasField p0_fieldSize p0_faultNow p0_hasTree p0_treeSize p0_weightCount p0_roundCount p0_setCount p0_by p0_closes s12 p0_field p0_former p0_needs (upd p0_next (((16 : Int32) * v1) + v3).toNatClampNeg (-2000000005 : Int32)) p0_order p0_puts p0_sort p0_takes) H := hP
          have hD : va_D A (wld_X10_expand cI cJ cZ h_p0 ad_p0 p0_places p0_steps p0_pastFirst p0_past p0_goings p0_rowSize p0_ways p0_hasField p0_fieldSize p0_faultNow p0_hasTree p0_treeSize p0_weightCount p0_roundCount p0_setCount p0_by p0_closes s12 p0_field p0_former p0_needs (upd p0_next (((16 : Int32) * v1) + v3).toNatClampNeg (-2000000005 : Int32)) p0_order p0_puts p0_sort p0_takes) := hD
          refine lv_aload_n hx hb dX10_expand_102 rfl (lv_at hl 0 rfl) ?_
          obtain ⟨hPc, hDc⟩ := x_sub (wc := (wld_X10_numberOf cI cJ cZ h_p0 ad_p0 p0_places p0_steps p0_pastFirst p0_past p0_goings p0_rowSize p0_ways p0_hasField p0_fieldSize p0_faultNow p0_hasTree p0_treeSize p0_weightCount p0_roundCount p0_setCount s12 p0_field p0_order)) hP hD [0, 3, 4, 8] (n := 12) rfl rfl (by decide +kernel)
          refine x_calli (ws' := fun (u : Unit) => (wld_X10_expand cI cJ cZ h_p0 ad_p0 p0_places p0_steps p0_pastFirst p0_past p0_goings p0_rowSize p0_ways p0_hasField p0_fieldSize p0_faultNow p0_hasTree p0_treeSize p0_weightCount p0_roundCount p0_setCount p0_by p0_closes s12 p0_field p0_former p0_needs (upd p0_next (((16 : Int32) * v1) + v3).toNatClampNeg (-2000000005 : Int32)) p0_order p0_puts p0_sort p0_takes)) hP hD hS hA [0, 3, 4, 8] [1, 2, 5, 6, 7, 9, 10, 11] [8, 0, 1, 9, 10, 2, 3, 4, 11, 5, 6, 7] (n := 12) (k := 4) rfl (fun _ => rfl) rfl (by decide +kernel) (fun _ => rfl) (va_runV (As := []) (rest := []) ⟨hx, hb, hml, hown, hts⟩ (c_X10_numberOf (l := l) (dC := dC) (dI := dI) (cI := cI) (cJ := cJ) (cZ := cZ) (sz := H.size) (h_p0 := h_p0) (ad_p0 := ad_p0) (p0_places := p0_places) (p0_steps := p0_steps) (p0_pastFirst := p0_pastFirst) (p0_past := p0_past) (p0_goings := p0_goings) (p0_rowSize := p0_rowSize) (p0_ways := p0_ways) (p0_hasField := p0_hasField) (p0_fieldSize := p0_fieldSize) (p0_faultNow := p0_faultNow) (p0_hasTree := p0_hasTree) (p0_treeSize := p0_treeSize) (p0_weightCount := p0_weightCount) (p0_roundCount := p0_roundCount) (p0_setCount := p0_setCount) (p0_come := s12) (p0_field := p0_field) (p0_order := p0_order) hw) (cwV 0 hts gX10_expand_X10_numberOf rfl rfl rfl (by decide +kernel) ⟨Nat.le_of_ble_eq_true rfl, Nat.le_of_ble_eq_true rfl⟩) ⟨xPre_blind, va_recv hK hP (ci := 10) (q0 := 0) rfl rfl, xPre_at hK hPc hDc n1 n2⟩ rfl rfl hl.1 rfl (lv_room (Nat.le_of_ble_eq_true rfl)) dX10_expand_103 ⟨Nat.zero_le _, Nat.zero_le _⟩) (fun r13 u H locs hw hP hD hS => ?_)
          try dsimp only at hw
          have hP : va_P (dC, dI) vwCl (wld_X10_expand cI cJ cZ h_p0 ad_p0 p0_places p0_steps p0_pastFirst p0_past p0_goings p0_rowSize p0_ways p0_hasField p0_fieldSize p0_faultNow p0_hasTree p0_treeSize p0_weightCount p0_roundCount p0_setCount p0_by p0_closes s12 p0_field p0_former p0_needs (upd p0_next (((16 : Int32) * v1) + v3).toNatClampNeg (-2000000005 : Int32)) p0_order p0_puts p0_sort p0_takes) H := hP
          have hD : va_D A (wld_X10_expand cI cJ cZ h_p0 ad_p0 p0_places p0_steps p0_pastFirst p0_past p0_goings p0_rowSize p0_ways p0_hasField p0_fieldSize p0_faultNow p0_hasTree p0_treeSize p0_weightCount p0_roundCount p0_setCount p0_by p0_closes s12 p0_field p0_former p0_needs (upd p0_next (((16 : Int32) * v1) + v3).toNatClampNeg (-2000000005 : Int32)) p0_order p0_puts p0_sort p0_takes) := hD
          refine lv_ldc (v := -2000000005) hx hb hown (hts (.constant RX10 85 (-2000000005)) (by decide +kernel)) dX10_expand_106 ?_
          refine lv_icmp_ne (tgt := 127) hx hb dX10_expand_108 (by decide) (fun c14 => ?_) (fun c15 => ?_)
          · have hw := hw.1 c14
            refine lv_aload_n hx hb dX10_expand_127 rfl (lv_at hl 0 rfl) ?_
            refine va_get (D := (dC, dI)) (ci := 10) (v := .ref (ad_p0 30)) (C := RX10) (T := TX10) (N := 50) hx hb hts iX10 hown hK hP 0 rfl rfl 30 (by decide) (hts (.fieldLink RX10 75 "NetHouseModel" "next" "[I") (by decide +kernel)) (fun _ h9 => h9) rfl dX10_expand_128 ?_
            refine lv_bipush (v := 16) hx hb dX10_expand_131 (by decide) ?_
            refine lv_iload_n hx hb dX10_expand_133 rfl (lv_at hl 1 rfl) ?_
            refine lv_imul hx hb dX10_expand_134 ?_
            refine lv_iload_n hx hb dX10_expand_135 rfl (lv_at hl 3 rfl) ?_
            refine lv_iadd hx hb dX10_expand_136 ?_
            refine lv_aload_n hx hb dX10_expand_137 rfl (lv_at hl 0 rfl) ?_
            obtain ⟨hPc, hDc⟩ := x_sub (wc := (wld_X10_numberOf cI cJ cZ h_p0 ad_p0 p0_places p0_steps p0_pastFirst p0_past p0_goings p0_rowSize p0_ways p0_hasField p0_fieldSize p0_faultNow p0_hasTree p0_treeSize p0_weightCount p0_roundCount p0_setCount s12 p0_field p0_order)) hP hD [0, 3, 4, 8] (n := 12) rfl rfl (by decide +kernel)
            refine x_calli (ws' := fun (u : Unit) => (wld_X10_expand cI cJ cZ h_p0 ad_p0 p0_places p0_steps p0_pastFirst p0_past p0_goings p0_rowSize p0_ways p0_hasField p0_fieldSize p0_faultNow p0_hasTree p0_treeSize p0_weightCount p0_roundCount p0_setCount p0_by p0_closes s12 p0_field p0_former p0_needs (upd p0_next (((16 : Int32) * v1) + v3).toNatClampNeg (-2000000005 : Int32)) p0_order p0_puts p0_sort p0_takes)) hP hD hS hA [0, 3, 4, 8] [1, 2, 5, 6, 7, 9, 10, 11] [8, 0, 1, 9, 10, 2, 3, 4, 11, 5, 6, 7] (n := 12) (k := 4) rfl (fun _ => rfl) rfl (by decide +kernel) (fun _ => rfl) (va_runV (As := []) (rest := [.int (((16 : Int32) * v1) + v3), .ref (ad_p0 30)]) ⟨hx, hb, hml, hown, hts⟩ (c_X10_numberOf (l := l) (dC := dC) (dI := dI) (cI := cI) (cJ := cJ) (cZ := cZ) (sz := H.size) (h_p0 := h_p0) (ad_p0 := ad_p0) (p0_places := p0_places) (p0_steps := p0_steps) (p0_pastFirst := p0_pastFirst) (p0_past := p0_past) (p0_goings := p0_goings) (p0_rowSize := p0_rowSize) (p0_ways := p0_ways) (p0_hasField := p0_hasField) (p0_fieldSize := p0_fieldSize) (p0_faultNow := p0_faultNow) (p0_hasTree := p0_hasTree) (p0_treeSize := p0_treeSize) (p0_weightCount := p0_weightCount) (p0_roundCount := p0_roundCount) (p0_setCount := p0_setCount) (p0_come := s12) (p0_field := p0_field) (p0_order := p0_order) hw) (cwV 0 hts gX10_expand_X10_numberOf rfl rfl rfl (by decide +kernel) ⟨Nat.le_of_ble_eq_true rfl, Nat.le_of_ble_eq_true rfl⟩) ⟨xPre_blind, va_recv hK hP (ci := 10) (q0 := 0) rfl rfl, xPre_at hK hPc hDc n1 n2⟩ rfl rfl hl.1 rfl (lv_room (Nat.le_of_ble_eq_true rfl)) dX10_expand_138 ⟨Nat.zero_le _, Nat.zero_le _⟩) (fun r16 u H locs hw hP hD hS => ?_)
            try dsimp only at hw
            have hP : va_P (dC, dI) vwCl (wld_X10_expand cI cJ cZ h_p0 ad_p0 p0_places p0_steps p0_pastFirst p0_past p0_goings p0_rowSize p0_ways p0_hasField p0_fieldSize p0_faultNow p0_hasTree p0_treeSize p0_weightCount p0_roundCount p0_setCount p0_by p0_closes s12 p0_field p0_former p0_needs (upd p0_next (((16 : Int32) * v1) + v3).toNatClampNeg (-2000000005 : Int32)) p0_order p0_puts p0_sort p0_takes) H := hP
            have hD : va_D A (wld_X10_expand cI cJ cZ h_p0 ad_p0 p0_places p0_steps p0_pastFirst p0_past p0_goings p0_rowSize p0_ways p0_hasField p0_fieldSize p0_faultNow p0_hasTree p0_treeSize p0_weightCount p0_roundCount p0_setCount p0_by p0_closes s12 p0_field p0_former p0_needs (upd p0_next (((16 : Int32) * v1) + v3).toNatClampNeg (-2000000005 : Int32)) p0_order p0_puts p0_sort p0_takes) := hD
            refine va_iast hx hb hK hP hD hS 7 0 rfl rfl hw.1 dX10_expand_141 (fun H locs hP hD hS => ?_)
            have hw := hw.2
            have hP : va_P (dC, dI) vwCl (wld_X10_expand cI cJ cZ h_p0 ad_p0 p0_places p0_steps p0_pastFirst p0_past p0_goings p0_rowSize p0_ways p0_hasField p0_fieldSize p0_faultNow p0_hasTree p0_treeSize p0_weightCount p0_roundCount p0_setCount p0_by p0_closes s12 p0_field p0_former p0_needs (upd (upd p0_next (((16 : Int32) * v1) + v3).toNatClampNeg (-2000000005 : Int32)) (((16 : Int32) * v1) + v3).toNatClampNeg r16) p0_order p0_puts p0_sort p0_takes) H := hP
            have hD : va_D A (wld_X10_expand cI cJ cZ h_p0 ad_p0 p0_places p0_steps p0_pastFirst p0_past p0_goings p0_rowSize p0_ways p0_hasField p0_fieldSize p0_faultNow p0_hasTree p0_treeSize p0_weightCount p0_roundCount p0_setCount p0_by p0_closes s12 p0_field p0_former p0_needs (upd (upd p0_next (((16 : Int32) * v1) + v3).toNatClampNeg (-2000000005 : Int32)) (((16 : Int32) * v1) + v3).toNatClampNeg r16) p0_order p0_puts p0_sort p0_takes) := hD
            obtain ⟨x17, ex17⟩ : ∃ y : Int32, y = v3 + (1 : Int32) := ⟨_, rfl⟩
            have hw := hw x17 ex17
            refine lv_iinc (v := x17) (lv' := [(3, .int x17), (0, .ref h_p0), (1, .int v1), (2, .int v2)]) hx hb dX10_expand_142 hl (k := 3) rfl (by rw [ex17]; rfl) (by decide) rfl (fun ls hl => ?_)
            refine lv_goto (tgt := 2) hx hb dX10_expand_145 (by decide) ?_
            exact ih _ _ _ _ _ _ _ _ hw _ _ _ hP hD hS (lv_sub hl [1, 2, 3, 0] rfl)
          · have hw := hw.2 c15
            refine lv_aload_n hx hb dX10_expand_111 rfl (lv_at hl 0 rfl) ?_
            refine va_get (D := (dC, dI)) (ci := 10) (v := .int p0_fieldSize) (C := RX10) (T := TX10) (N := 50) hx hb hts iX10 hown hK hP 0 rfl rfl 25 (by decide) (hts (.fieldLink RX10 124 "NetHouseModel" "fieldSize" "I") (by decide +kernel)) (fun _ h9 => h9) rfl dX10_expand_112 ?_
            refine lv_iload_n hx hb dX10_expand_115 rfl (lv_at hl 2 rfl) ?_
            refine lv_icmp_ne (tgt := 121) hx hb dX10_expand_116 (by decide) (fun c18 => ?_) (fun c19 => ?_)
            · have hw := hw.1 c18
              refine lv_aload_n hx hb dX10_expand_121 rfl (lv_at hl 0 rfl) ?_
              refine lv_iload_n hx hb dX10_expand_122 rfl (lv_at hl 1 rfl) ?_
              refine lv_iload_n hx hb dX10_expand_123 rfl (lv_at hl 3 rfl) ?_
              obtain ⟨hPc, hDc⟩ := x_sub (wc := (wld_X10_addMarking cI cJ cZ h_p0 ad_p0 p0_places p0_steps p0_pastFirst p0_past p0_goings p0_rowSize p0_ways p0_hasField p0_fieldSize p0_faultNow p0_hasTree p0_treeSize p0_weightCount p0_roundCount p0_setCount p0_by s12 p0_field p0_former p0_order)) hP hD [0, 1, 3, 4, 5, 8] (n := 12) rfl rfl (by decide +kernel)
              refine x_callv (ws' := fun (u : (Int32) × (Nat → Int32) × (Nat → Int32) × (Nat → Int32) × (Nat → Int32)) => (wld_X10_expand cI cJ cZ h_p0 ad_p0 p0_places p0_steps p0_pastFirst p0_past p0_goings p0_rowSize p0_ways p0_hasField (u.1) p0_faultNow p0_hasTree p0_treeSize p0_weightCount p0_roundCount p0_setCount (u.2.1) p0_closes s12 (u.2.2.1) (u.2.2.2.1) p0_needs (upd p0_next (((16 : Int32) * v1) + v3).toNatClampNeg (-2000000005 : Int32)) (u.2.2.2.2) p0_puts p0_sort p0_takes)) hP hD hS hA [0, 1, 3, 4, 5, 8] [2, 6, 7, 9, 10, 11] [6, 7, 0, 8, 9, 10, 1, 2, 11, 3, 4, 5] (n := 12) (k := 6) rfl (fun _ => rfl) rfl (by decide +kernel) (fun _ => rfl) (va_runV (As := [.int v1, .int v3]) (rest := []) ⟨hx, hb, hml, hown, hts⟩ (c_X10_addMarking (l := l) (dC := dC) (dI := dI) (cI := cI) (cJ := cJ) (cZ := cZ) (sz := H.size) (h_p0 := h_p0) (ad_p0 := ad_p0) (p0_places := p0_places) (p0_steps := p0_steps) (p0_pastFirst := p0_pastFirst) (p0_past := p0_past) (p0_goings := p0_goings) (p0_rowSize := p0_rowSize) (p0_ways := p0_ways) (p0_hasField := p0_hasField) (p0_fieldSize := p0_fieldSize) (p0_faultNow := p0_faultNow) (p0_hasTree := p0_hasTree) (p0_treeSize := p0_treeSize) (p0_weightCount := p0_weightCount) (p0_roundCount := p0_roundCount) (p0_setCount := p0_setCount) (p0_by := p0_by) (p0_come := s12) (p0_field := p0_field) (p0_former := p0_former) (p0_order := p0_order) hw) (cwV 2 hts gX10_expand_X10_addMarking rfl rfl rfl (by decide +kernel) ⟨Nat.le_of_ble_eq_true rfl, Nat.le_of_ble_eq_true rfl⟩) ⟨xPre_blind, va_recv hK hP (ci := 10) (q0 := 0) rfl rfl, xPre_at hK hPc hDc n1 n2⟩ rfl rfl hl.1 rfl (lv_room (Nat.le_of_ble_eq_true rfl)) dX10_expand_124 ⟨Nat.zero_le _, Nat.zero_le _⟩) (fun u H locs hw hP hD hS => ?_)
              obtain ⟨y20, y21, y22, y23, y24⟩ := u
              try dsimp only at hw
              have hP : va_P (dC, dI) vwCl (wld_X10_expand cI cJ cZ h_p0 ad_p0 p0_places p0_steps p0_pastFirst p0_past p0_goings p0_rowSize p0_ways p0_hasField y20 p0_faultNow p0_hasTree p0_treeSize p0_weightCount p0_roundCount p0_setCount y21 p0_closes s12 y22 y23 p0_needs (upd p0_next (((16 : Int32) * v1) + v3).toNatClampNeg (-2000000005 : Int32)) y24 p0_puts p0_sort p0_takes) H := hP
              have hD : va_D A (wld_X10_expand cI cJ cZ h_p0 ad_p0 p0_places p0_steps p0_pastFirst p0_past p0_goings p0_rowSize p0_ways p0_hasField y20 p0_faultNow p0_hasTree p0_treeSize p0_weightCount p0_roundCount p0_setCount y21 p0_closes s12 y22 y23 p0_needs (upd p0_next (((16 : Int32) * v1) + v3).toNatClampNeg (-2000000005 : Int32)) y24 p0_puts p0_sort p0_takes) := hD
              refine lv_aload_n hx hb dX10_expand_127 rfl (lv_at hl 0 rfl) ?_
              refine va_get (D := (dC, dI)) (ci := 10) (v := .ref (ad_p0 30)) (C := RX10) (T := TX10) (N := 50) hx hb hts iX10 hown hK hP 0 rfl rfl 30 (by decide) (hts (.fieldLink RX10 75 "NetHouseModel" "next" "[I") (by decide +kernel)) (fun _ h9 => h9) rfl dX10_expand_128 ?_
              refine lv_bipush (v := 16) hx hb dX10_expand_131 (by decide) ?_
              refine lv_iload_n hx hb dX10_expand_133 rfl (lv_at hl 1 rfl) ?_
              refine lv_imul hx hb dX10_expand_134 ?_
              refine lv_iload_n hx hb dX10_expand_135 rfl (lv_at hl 3 rfl) ?_
              refine lv_iadd hx hb dX10_expand_136 ?_
              refine lv_aload_n hx hb dX10_expand_137 rfl (lv_at hl 0 rfl) ?_
              obtain ⟨hPc, hDc⟩ := x_sub (wc := (wld_X10_numberOf cI cJ cZ h_p0 ad_p0 p0_places p0_steps p0_pastFirst p0_past p0_goings p0_rowSize p0_ways p0_hasField y20 p0_faultNow p0_hasTree p0_treeSize p0_weightCount p0_roundCount p0_setCount s12 y22 y24)) hP hD [0, 3, 4, 8] (n := 12) rfl rfl (by decide +kernel)
              refine x_calli (ws' := fun (u : Unit) => (wld_X10_expand cI cJ cZ h_p0 ad_p0 p0_places p0_steps p0_pastFirst p0_past p0_goings p0_rowSize p0_ways p0_hasField y20 p0_faultNow p0_hasTree p0_treeSize p0_weightCount p0_roundCount p0_setCount y21 p0_closes s12 y22 y23 p0_needs (upd p0_next (((16 : Int32) * v1) + v3).toNatClampNeg (-2000000005 : Int32)) y24 p0_puts p0_sort p0_takes)) hP hD hS hA [0, 3, 4, 8] [1, 2, 5, 6, 7, 9, 10, 11] [8, 0, 1, 9, 10, 2, 3, 4, 11, 5, 6, 7] (n := 12) (k := 4) rfl (fun _ => rfl) rfl (by decide +kernel) (fun _ => rfl) (va_runV (As := []) (rest := [.int (((16 : Int32) * v1) + v3), .ref (ad_p0 30)]) ⟨hx, hb, hml, hown, hts⟩ (c_X10_numberOf (l := l) (dC := dC) (dI := dI) (cI := cI) (cJ := cJ) (cZ := cZ) (sz := H.size) (h_p0 := h_p0) (ad_p0 := ad_p0) (p0_places := p0_places) (p0_steps := p0_steps) (p0_pastFirst := p0_pastFirst) (p0_past := p0_past) (p0_goings := p0_goings) (p0_rowSize := p0_rowSize) (p0_ways := p0_ways) (p0_hasField := p0_hasField) (p0_fieldSize := y20) (p0_faultNow := p0_faultNow) (p0_hasTree := p0_hasTree) (p0_treeSize := p0_treeSize) (p0_weightCount := p0_weightCount) (p0_roundCount := p0_roundCount) (p0_setCount := p0_setCount) (p0_come := s12) (p0_field := y22) (p0_order := y24) hw) (cwV 0 hts gX10_expand_X10_numberOf rfl rfl rfl (by decide +kernel) ⟨Nat.le_of_ble_eq_true rfl, Nat.le_of_ble_eq_true rfl⟩) ⟨xPre_blind, va_recv hK hP (ci := 10) (q0 := 0) rfl rfl, xPre_at hK hPc hDc n1 n2⟩ rfl rfl hl.1 rfl (lv_room (Nat.le_of_ble_eq_true rfl)) dX10_expand_138 ⟨Nat.zero_le _, Nat.zero_le _⟩) (fun r25 u H locs hw hP hD hS => ?_)
              try dsimp only at hw
              have hP : va_P (dC, dI) vwCl (wld_X10_expand cI cJ cZ h_p0 ad_p0 p0_places p0_steps p0_pastFirst p0_past p0_goings p0_rowSize p0_ways p0_hasField y20 p0_faultNow p0_hasTree p0_treeSize p0_weightCount p0_roundCount p0_setCount y21 p0_closes s12 y22 y23 p0_needs (upd p0_next (((16 : Int32) * v1) + v3).toNatClampNeg (-2000000005 : Int32)) y24 p0_puts p0_sort p0_takes) H := hP
              have hD : va_D A (wld_X10_expand cI cJ cZ h_p0 ad_p0 p0_places p0_steps p0_pastFirst p0_past p0_goings p0_rowSize p0_ways p0_hasField y20 p0_faultNow p0_hasTree p0_treeSize p0_weightCount p0_roundCount p0_setCount y21 p0_closes s12 y22 y23 p0_needs (upd p0_next (((16 : Int32) * v1) + v3).toNatClampNeg (-2000000005 : Int32)) y24 p0_puts p0_sort p0_takes) := hD
              refine va_iast hx hb hK hP hD hS 7 0 rfl rfl hw.1 dX10_expand_141 (fun H locs hP hD hS => ?_)
              have hw := hw.2
              have hP : va_P (dC, dI) vwCl (wld_X10_expand cI cJ cZ h_p0 ad_p0 p0_places p0_steps p0_pastFirst p0_past p0_goings p0_rowSize p0_ways p0_hasField y20 p0_faultNow p0_hasTree p0_treeSize p0_weightCount p0_roundCount p0_setCount y21 p0_closes s12 y22 y23 p0_needs (upd (upd p0_next (((16 : Int32) * v1) + v3).toNatClampNeg (-2000000005 : Int32)) (((16 : Int32) * v1) + v3).toNatClampNeg r25) y24 p0_puts p0_sort p0_takes) H := hP
              have hD : va_D A (wld_X10_expand cI cJ cZ h_p0 ad_p0 p0_places p0_steps p0_pastFirst p0_past p0_goings p0_rowSize p0_ways p0_hasField y20 p0_faultNow p0_hasTree p0_treeSize p0_weightCount p0_roundCount p0_setCount y21 p0_closes s12 y22 y23 p0_needs (upd (upd p0_next (((16 : Int32) * v1) + v3).toNatClampNeg (-2000000005 : Int32)) (((16 : Int32) * v1) + v3).toNatClampNeg r25) y24 p0_puts p0_sort p0_takes) := hD
              obtain ⟨x26, ex26⟩ : ∃ y : Int32, y = v3 + (1 : Int32) := ⟨_, rfl⟩
              have hw := hw x26 ex26
              refine lv_iinc (v := x26) (lv' := [(3, .int x26), (0, .ref h_p0), (1, .int v1), (2, .int v2)]) hx hb dX10_expand_142 hl (k := 3) rfl (by rw [ex26]; rfl) (by decide) rfl (fun ls hl => ?_)
              refine lv_goto (tgt := 2) hx hb dX10_expand_145 (by decide) ?_
              exact ih _ _ _ _ _ _ _ _ hw _ _ _ hP hD hS (lv_sub hl [1, 2, 3, 0] rfl)
            · have hw := hw.2 c19
              refine lv_iconst (v := 0) hx hb dX10_expand_119 (by decide) ?_
              exact x_zret (w1 := fun (u : (Int32) × (Nat → Int32) × (Nat → Int32) × (Nat → Int32) × (Nat → Int32) × (Nat → Int32) × (Nat → Int32)) => (wld_X10_expand cI cJ cZ h_p0 ad_p0 p0_places p0_steps p0_pastFirst p0_past p0_goings p0_rowSize p0_ways p0_hasField (u.1) p0_faultNow p0_hasTree p0_treeSize p0_weightCount p0_roundCount p0_setCount (u.2.1) p0_closes (u.2.2.1) (u.2.2.2.1) (u.2.2.2.2.1) p0_needs (u.2.2.2.2.2.1) (u.2.2.2.2.2.2) p0_puts p0_sort p0_takes)) hx hb hr hlocks (by decide) (p0_fieldSize, p0_by, s12, p0_field, p0_former, (upd p0_next (((16 : Int32) * v1) + v3).toNatClampNeg (-2000000005 : Int32)), p0_order) hw hP hD hS dX10_expand_120
set_option maxHeartbeats 4000000 in
set_option maxRecDepth 100000 in
theorem c_X10_expand {l : Launch} {dC : Nat → ClassId} {dI : Nat → Nat → Nat} {sz : Nat} {cI cJ cZ : ClassId} {h_p0 : Nat} {ad_p0 : Nat → Nat} {p0_places : Int32} {p0_steps : Int32} {p0_pastFirst : Int32} {p0_past : Int32} {p0_goings : Int32} {p0_rowSize : Int32} {p0_ways : Int32} {p0_hasField : Int32} {p0_fieldSize : Int32} {p0_faultNow : Int32} {p0_hasTree : Int32} {p0_treeSize : Int32} {p0_weightCount : Int32} {p0_roundCount : Int32} {p0_setCount : Int32} {p0_by : Nat → Int32} {p0_closes : Nat → Int32} {p0_come : Nat → Int32} {p0_field : Nat → Int32} {p0_former : Nat → Int32} {p0_needs : Nat → Int32} {p0_next : Nat → Int32} {p0_order : Nat → Int32} {p0_puts : Nat → Int32} {p0_sort : Nat → Int32} {p0_takes : Nat → Int32} {a1 : Int32} {a2 : Int32} {post : Int32 → (Int32) → (Nat → Int32) → (Nat → Int32) → (Nat → Int32) → (Nat → Int32) → (Nat → Int32) → (Nat → Int32) → Prop} (hw : w_X10_expand p0_fieldSize p0_places p0_steps p0_by p0_closes p0_come p0_field p0_former p0_needs p0_next p0_order p0_puts p0_sort p0_takes a1 a2 post) : Met l yX10_expand wsX10_expand ({ frames := 3, cells := 0, slots := 0, locals := 76 }) (va_Pc [.ref h_p0, .int a1, .int a2] (xPre (dC, dI) cI cJ cZ (wld_X10_expand cI cJ cZ h_p0 ad_p0 p0_places p0_steps p0_pastFirst p0_past p0_goings p0_rowSize p0_ways p0_hasField p0_fieldSize p0_faultNow p0_hasTree p0_treeSize p0_weightCount p0_roundCount p0_setCount p0_by p0_closes p0_come p0_field p0_former p0_needs p0_next p0_order p0_puts p0_sort p0_takes) sz)) (q_X10_expand dC dI cI cJ cZ h_p0 ad_p0 p0_places p0_steps p0_pastFirst p0_past p0_goings p0_rowSize p0_ways p0_hasField p0_fieldSize p0_faultNow p0_hasTree p0_treeSize p0_weightCount p0_roundCount p0_setCount p0_by p0_closes p0_come p0_field p0_former p0_needs p0_next p0_order p0_puts p0_sort p0_takes post (va_A (wld_X10_expand cI cJ cZ h_p0 ad_p0 p0_places p0_steps p0_pastFirst p0_past p0_goings p0_rowSize p0_ways p0_hasField p0_fieldSize p0_faultNow p0_hasTree p0_treeSize p0_weightCount p0_roundCount p0_setCount p0_by p0_closes p0_come p0_field p0_former p0_needs p0_next p0_order p0_puts p0_sort p0_takes) sz)) 0 0 (va_A (wld_X10_expand cI cJ cZ h_p0 ad_p0 p0_places p0_steps p0_pastFirst p0_past p0_goings p0_rowSize p0_ways p0_hasField p0_fieldSize p0_faultNow p0_hasTree p0_treeSize p0_weightCount p0_roundCount p0_setCount p0_by p0_closes p0_come p0_field p0_former p0_needs p0_next p0_order p0_puts p0_sort p0_takes) sz) := by
  refine x_met (cc := cX10_expand) (maxL := 5) (ret := (some .boolean)) (own := RX10) (Qc := fun A => (q_X10_expand dC dI cI cJ cZ h_p0 ad_p0 p0_places p0_steps p0_pastFirst p0_past p0_goings p0_rowSize p0_ways p0_hasField p0_fieldSize p0_faultNow p0_hasTree p0_treeSize p0_weightCount p0_roundCount p0_setCount p0_by p0_closes p0_come p0_field p0_former p0_needs p0_next p0_order p0_puts p0_sort p0_takes post A)) (by decide) rfl rfl (Nat.le_of_ble_eq_true rfl) ?_
  intro p e s m args below meth c A ls E0 hP hD hS hl
  obtain ⟨hx, hb, hr, hml, hown, hts, hlocks, hK, hA, n1, n2⟩ := id E0
  have iX10 : ∀ w ∈ u_ws RX10 TX10 50, w ∈ wsX10_expand := fun w h => List.mem_cons_of_mem _ (List.mem_append_right _ h)
  have hS0 := hS
  have hl : lv_has ls 5 [(0, .ref h_p0), (1, .int a1), (2, .int a2)] := hl
  unfold w_X10_expand at hw
  obtain ⟨H, hH⟩ : ∃ H, H = s.heap := ⟨_, rfl⟩
  have hS : va_S A s.heap H [] := by rw [hH]; exact hS
  have hP : va_P (dC, dI) vwCl (wld_X10_expand cI cJ cZ h_p0 ad_p0 p0_places p0_steps p0_pastFirst p0_past p0_goings p0_rowSize p0_ways p0_hasField p0_fieldSize p0_faultNow p0_hasTree p0_treeSize p0_weightCount p0_roundCount p0_setCount p0_by p0_closes p0_come p0_field p0_former p0_needs p0_next p0_order p0_puts p0_sort p0_takes) H := by rw [hH]; exact hP
  suffices hG : W p l e ({ frames := 3, cells := 0, slots := 0, locals := 76 }) s m args below meth c H [] 0 0 (MQ below (q_X10_expand dC dI cI cJ cZ h_p0 ad_p0 p0_places p0_steps p0_pastFirst p0_past p0_goings p0_rowSize p0_ways p0_hasField p0_fieldSize p0_faultNow p0_hasTree p0_treeSize p0_weightCount p0_roundCount p0_setCount p0_by p0_closes p0_come p0_field p0_former p0_needs p0_next p0_order p0_puts p0_sort p0_takes post A) args s 0 0 A) (F0 m 0 ls []) by rw [hH] at hG; exact hG
  clear hH
  refine lv_iconst (v := 0) hx hb dX10_expand_0 (by decide) ?_
  refine lv_istore_n (lv' := [(3, .int (0 : Int32)), (0, .ref h_p0), (1, .int a1), (2, .int a2)]) hx hb dX10_expand_1 rfl hl (by decide) rfl (fun ls hl => ?_)
  obtain ⟨n27, hw⟩ := hw
  refine c_X10_expand_L2 (l := l) (z_p0_fieldSize := p0_fieldSize) (z_p0_by := p0_by) (z_p0_come := p0_come) (z_p0_field := p0_field) (z_p0_former := p0_former) (z_p0_next := p0_next) (z_p0_order := p0_order) E0 ?_ n27 _ _ _ _ _ _ _ _ hw _ _ _ hP hD hS (lv_sub hl [1, 2, 3, 0] rfl)
  · intro v28 s29 s30 s31 s32 s33 s34 s35 H locs ls hw hP hD hS hl
    have hP : va_P (dC, dI) vwCl (wld_X10_expand cI cJ cZ h_p0 ad_p0 p0_places p0_steps p0_pastFirst p0_past p0_goings p0_rowSize p0_ways p0_hasField s29 p0_faultNow p0_hasTree p0_treeSize p0_weightCount p0_roundCount p0_setCount s30 p0_closes s31 s32 s33 p0_needs s34 s35 p0_puts p0_sort p0_takes) H := hP
    have hD : va_D A (wld_X10_expand cI cJ cZ h_p0 ad_p0 p0_places p0_steps p0_pastFirst p0_past p0_goings p0_rowSize p0_ways p0_hasField s29 p0_faultNow p0_hasTree p0_treeSize p0_weightCount p0_roundCount p0_setCount s30 p0_closes s31 s32 s33 p0_needs s34 s35 p0_puts p0_sort p0_takes) := hD
    refine lv_iconst (v := 1) hx hb dX10_expand_148 (by decide) ?_
    exact x_zret (w1 := fun (u : (Int32) × (Nat → Int32) × (Nat → Int32) × (Nat → Int32) × (Nat → Int32) × (Nat → Int32) × (Nat → Int32)) => (wld_X10_expand cI cJ cZ h_p0 ad_p0 p0_places p0_steps p0_pastFirst p0_past p0_goings p0_rowSize p0_ways p0_hasField (u.1) p0_faultNow p0_hasTree p0_treeSize p0_weightCount p0_roundCount p0_setCount (u.2.1) p0_closes (u.2.2.1) (u.2.2.2.1) (u.2.2.2.2.1) p0_needs (u.2.2.2.2.2.1) (u.2.2.2.2.2.2) p0_puts p0_sort p0_takes)) hx hb hr hlocks (by decide) (s29, s30, s31, s32, s33, s34, s35) hw hP hD hS dX10_expand_149
abbrev wld_X10_makeField (cI cJ cZ : ClassId) (h_p0 : Nat) (ad_p0 : Nat → Nat) (p0_places : Int32) (p0_steps : Int32) (p0_pastFirst : Int32) (p0_past : Int32) (p0_goings : Int32) (p0_rowSize : Int32) (p0_ways : Int32) (p0_hasField : Int32) (p0_fieldSize : Int32) (p0_faultNow : Int32) (p0_hasTree : Int32) (p0_treeSize : Int32) (p0_weightCount : Int32) (p0_roundCount : Int32) (p0_setCount : Int32) (p0_by : Nat → Int32) (p0_closes : Nat → Int32) (p0_come : Nat → Int32) (p0_field : Nat → Int32) (p0_former : Nat → Int32) (p0_needs : Nat → Int32) (p0_next : Nat → Int32) (p0_order : Nat → Int32) (p0_puts : Nat → Int32) (p0_sort : Nat → Int32) (p0_takes : Nat → Int32) : va_W := [(h_p0, .inr (10, [.int p0_places, .int p0_steps, .ref (ad_p0 2), .ref (ad_p0 3), .ref (ad_p0 4), .ref (ad_p0 5), .ref (ad_p0 6), .ref (ad_p0 7), .ref (ad_p0 8), .ref (ad_p0 9), .ref (ad_p0 10), .ref (ad_p0 11), .ref (ad_p0 12), .ref (ad_p0 13), .ref (ad_p0 14), .int p0_pastFirst, .int p0_past, .int p0_goings, .int p0_rowSize, .ref (ad_p0 19), .ref (ad_p0 20), .int p0_ways, .ref (ad_p0 22), .ref (ad_p0 23), .int p0_hasField, .int p0_fieldSize, .ref (ad_p0 26), .ref (ad_p0 27), .ref (ad_p0 28), .ref (ad_p0 29), .ref (ad_p0 30), .ref (ad_p0 31), .ref (ad_p0 32), .int p0_faultNow, .int p0_hasTree, .int p0_treeSize, .ref (ad_p0 36), .ref (ad_p0 37), .ref (ad_p0 38), .ref (ad_p0 39), .ref (ad_p0 40), .ref (ad_p0 41), .ref (ad_p0 42), .int p0_weightCount, .ref (ad_p0 44), .int p0_roundCount, .ref (ad_p0 46), .int p0_setCount, .ref (ad_p0 48), .ref (ad_p0 49)])), ((ad_p0 29), .inl (cI, 8000, .inl p0_by)), ((ad_p0 7), .inl (cI, 256, .inl p0_closes)), ((ad_p0 31), .inl (cI, 16, .inl p0_come)), ((ad_p0 26), .inl (cI, 128000, .inl p0_field)), ((ad_p0 28), .inl (cI, 8000, .inl p0_former)), ((ad_p0 6), .inl (cI, 256, .inl p0_needs)), ((ad_p0 30), .inl (cI, 128000, .inl p0_next)), ((ad_p0 27), .inl (cI, 8000, .inl p0_order)), ((ad_p0 5), .inl (cI, 256, .inl p0_puts)), ((ad_p0 3), .inl (cI, 16, .inl p0_sort)), ((ad_p0 4), .inl (cI, 256, .inl p0_takes))]
abbrev q_X10_makeField (dC : Nat → ClassId) (dI : Nat → Nat → Nat) (cI cJ cZ : ClassId) (h_p0 : Nat) (ad_p0 : Nat → Nat) (p0_places : Int32) (p0_steps : Int32) (p0_pastFirst : Int32) (p0_past : Int32) (p0_goings : Int32) (p0_rowSize : Int32) (p0_ways : Int32) (p0_hasField : Int32) (p0_fieldSize : Int32) (p0_faultNow : Int32) (p0_hasTree : Int32) (p0_treeSize : Int32) (p0_weightCount : Int32) (p0_roundCount : Int32) (p0_setCount : Int32) (p0_by : Nat → Int32) (p0_closes : Nat → Int32) (p0_come : Nat → Int32) (p0_field : Nat → Int32) (p0_former : Nat → Int32) (p0_needs : Nat → Int32) (p0_next : Nat → Int32) (p0_order : Nat → Int32) (p0_puts : Nat → Int32) (p0_sort : Nat → Int32) (p0_takes : Nat → Int32) (post : Int32 → (Int32) → (Int32) → (Nat → Int32) → (Nat → Int32) → (Nat → Int32) → (Nat → Int32) → (Nat → Int32) → (Nat → Int32) → Prop) (A : Nat → Prop) : Array Value → State → Outcome → State → Prop := va_Qi (fun r (u : (Int32) × (Int32) × (Nat → Int32) × (Nat → Int32) × (Nat → Int32) × (Nat → Int32) × (Nat → Int32) × (Nat → Int32)) => post r (u.1) (u.2.1) (u.2.2.1) (u.2.2.2.1) (u.2.2.2.2.1) (u.2.2.2.2.2.1) (u.2.2.2.2.2.2.1) (u.2.2.2.2.2.2.2)) (fun (u : (Int32) × (Int32) × (Nat → Int32) × (Nat → Int32) × (Nat → Int32) × (Nat → Int32) × (Nat → Int32) × (Nat → Int32)) t => xPost (dC, dI) A (wld_X10_makeField cI cJ cZ h_p0 ad_p0 p0_places p0_steps p0_pastFirst p0_past p0_goings p0_rowSize p0_ways (u.2.1) (u.1) p0_faultNow p0_hasTree p0_treeSize p0_weightCount p0_roundCount p0_setCount (u.2.2.1) p0_closes (u.2.2.2.1) (u.2.2.2.2.1) (u.2.2.2.2.2.1) p0_needs (u.2.2.2.2.2.2.1) (u.2.2.2.2.2.2.2) p0_puts p0_sort p0_takes) t) A
def w_X10_makeField_L20b (v1 : Int32) (p0_places : Int32) (p0_steps : Int32) (p0_closes : Nat → Int32) (p0_needs : Nat → Int32) (p0_puts : Nat → Int32) (p0_sort : Nat → Int32) (p0_takes : Nat → Int32) (post : Int32 → (Int32) → (Int32) → (Nat → Int32) → (Nat → Int32) → (Nat → Int32) → (Nat → Int32) → (Nat → Int32) → (Nat → Int32) → Prop) (K : (Int32) → (Int32) → (Int32) → (Nat → Int32) → (Nat → Int32) → (Nat → Int32) → (Nat → Int32) → (Nat → Int32) → (Nat → Int32) → Prop) (rec : (Int32) → (Int32) → (Int32) → (Nat → Int32) → (Nat → Int32) → (Nat → Int32) → (Nat → Int32) → (Nat → Int32) → (Nat → Int32) → Prop) (v2 : Int32) (p0_fieldSize : Int32) (p0_hasField : Int32) (p0_by : Nat → Int32) (p0_come : Nat → Int32) (p0_field : Nat → Int32) (p0_former : Nat → Int32) (p0_next : Nat → Int32) (p0_order : Nat → Int32) : Prop :=
    (p0_fieldSize ≤ v2 →
      K v2 p0_fieldSize p0_hasField p0_by p0_come p0_field p0_former p0_next p0_order) ∧
    (¬ p0_fieldSize ≤ v2 →
      w_X10_expand p0_fieldSize p0_places p0_steps p0_by p0_closes p0_come p0_field p0_former p0_needs p0_next p0_order p0_puts p0_sort p0_takes v2 v1 (fun r8 y9 y10 y11 y12 y13 y14 y15 =>
      (¬ r8 = 0 →
        ∀ x18 : Int32, x18 = v2 + (1 : Int32) →
        rec x18 y9 p0_hasField y10 y11 y12 y13 y14 y15) ∧
      (r8 = 0 →
        (post (-2000000004 : Int32) (0 : Int32) (0 : Int32) y10 y11 y12 y13 y14 y15))))
def w_X10_makeField_L20 (v1 : Int32) (p0_places : Int32) (p0_steps : Int32) (p0_closes : Nat → Int32) (p0_needs : Nat → Int32) (p0_puts : Nat → Int32) (p0_sort : Nat → Int32) (p0_takes : Nat → Int32) (post : Int32 → (Int32) → (Int32) → (Nat → Int32) → (Nat → Int32) → (Nat → Int32) → (Nat → Int32) → (Nat → Int32) → (Nat → Int32) → Prop) (K : (Int32) → (Int32) → (Int32) → (Nat → Int32) → (Nat → Int32) → (Nat → Int32) → (Nat → Int32) → (Nat → Int32) → (Nat → Int32) → Prop) : Nat → (Int32) → (Int32) → (Int32) → (Nat → Int32) → (Nat → Int32) → (Nat → Int32) → (Nat → Int32) → (Nat → Int32) → (Nat → Int32) → Prop
  | 0, _, _, _, _, _, _, _, _, _ => False
  | n + 1, v2, p0_fieldSize, p0_hasField, p0_by, p0_come, p0_field, p0_former, p0_next, p0_order => w_X10_makeField_L20b v1 p0_places p0_steps p0_closes p0_needs p0_puts p0_sort p0_takes post K (w_X10_makeField_L20 v1 p0_places p0_steps p0_closes p0_needs p0_puts p0_sort p0_takes post K n) v2 p0_fieldSize p0_hasField p0_by p0_come p0_field p0_former p0_next p0_order
def w_X10_makeField (p0_fieldSize : Int32) (p0_hasField : Int32) (p0_places : Int32) (p0_steps : Int32) (p0_by : Nat → Int32) (p0_closes : Nat → Int32) (p0_come : Nat → Int32) (p0_field : Nat → Int32) (p0_former : Nat → Int32) (p0_needs : Nat → Int32) (p0_next : Nat → Int32) (p0_order : Nat → Int32) (p0_puts : Nat → Int32) (p0_sort : Nat → Int32) (p0_takes : Nat → Int32) (a1 : Int32) (post : Int32 → (Int32) → (Int32) → (Nat → Int32) → (Nat → Int32) → (Nat → Int32) → (Nat → Int32) → (Nat → Int32) → (Nat → Int32) → Prop) : Prop :=
  w_X10_addMarking (0 : Int32) p0_places p0_by p0_come p0_field p0_former p0_order (-2000000005 : Int32) (-2000000005 : Int32) (fun y1 y2 y3 y4 y5 =>
  ∃ n : Nat, w_X10_makeField_L20 a1 p0_places p0_steps p0_closes p0_needs p0_puts p0_sort p0_takes post (fun v20 s21 s22 s23 s24 s25 s26 s27 s28 =>
      (post s21 s21 s22 s23 s24 s25 s26 s27 s28)) n (0 : Int32) y1 (1 : Int32) y2 p0_come y3 y4 p0_next y5)
set_option maxHeartbeats 4000000 in
set_option maxRecDepth 100000 in
theorem c_X10_makeField_L20 {p : Program} {l : Launch} {e : Env} {s : State} {m : MethodId} {args : Array Value} {below : List Frame} {meth : Method} {c : Code} {dC : Nat → ClassId} {dI : Nat → Nat → Nat} {A : Nat → Prop} {cI cJ cZ : ClassId} {h_p0 : Nat} {ad_p0 : Nat → Nat} {p0_places : Int32} {p0_steps : Int32} {p0_pastFirst : Int32} {p0_past : Int32} {p0_goings : Int32} {p0_rowSize : Int32} {p0_ways : Int32} {p0_faultNow : Int32} {p0_hasTree : Int32} {p0_treeSize : Int32} {p0_weightCount : Int32} {p0_roundCount : Int32} {p0_setCount : Int32} {p0_closes : Nat → Int32} {p0_needs : Nat → Int32} {p0_puts : Nat → Int32} {p0_sort : Nat → Int32} {p0_takes : Nat → Int32} {v1 : Int32} {z_p0_fieldSize : Int32} {z_p0_hasField : Int32} {z_p0_by : Nat → Int32} {z_p0_come : Nat → Int32} {z_p0_field : Nat → Int32} {z_p0_former : Nat → Int32} {z_p0_next : Nat → Int32} {z_p0_order : Nat → Int32} {post : Int32 → (Int32) → (Int32) → (Nat → Int32) → (Nat → Int32) → (Nat → Int32) → (Nat → Int32) → (Nat → Int32) → (Nat → Int32) → Prop} {K : (Int32) → (Int32) → (Int32) → (Nat → Int32) → (Nat → Int32) → (Nat → Int32) → (Nat → Int32) → (Nat → Int32) → (Nat → Int32) → Prop} (E0 : xEnv p s m args meth c cX10_makeField (some .int) 3 RX10 wsX10_makeField (dC, dI) cI cJ cZ A) (hk : ∀ (v2 : Int32) (p0_fieldSize : Int32) (p0_hasField : Int32) (p0_by : Nat → Int32) (p0_come : Nat → Int32) (p0_field : Nat → Int32) (p0_former : Nat → Int32) (p0_next : Nat → Int32) (p0_order : Nat → Int32) (H : Heap) (locs : List Loc) (ls : Array Slot), K v2 p0_fieldSize p0_hasField p0_by p0_come p0_field p0_former p0_next p0_order → va_P (dC, dI) vwCl (wld_X10_makeField cI cJ cZ h_p0 ad_p0 p0_places p0_steps p0_pastFirst p0_past p0_goings p0_rowSize p0_ways p0_hasField p0_fieldSize p0_faultNow p0_hasTree p0_treeSize p0_weightCount p0_roundCount p0_setCount p0_by p0_closes p0_come p0_field p0_former p0_needs p0_next p0_order p0_puts p0_sort p0_takes) H → va_D A (wld_X10_makeField cI cJ cZ h_p0 ad_p0 p0_places p0_steps p0_pastFirst p0_past p0_goings p0_rowSize p0_ways p0_hasField p0_fieldSize p0_faultNow p0_hasTree p0_treeSize p0_weightCount p0_roundCount p0_setCount p0_by p0_closes p0_come p0_field p0_former p0_needs p0_next p0_order p0_puts p0_sort p0_takes) → va_S A s.heap H locs → lv_has ls 3 [(0, .ref h_p0)] → W p l e ({ frames := 4, cells := 0, slots := 0, locals := 100 }) s m args below meth c H locs 0 0 (MQ below (q_X10_makeField dC dI cI cJ cZ h_p0 ad_p0 p0_places p0_steps p0_pastFirst p0_past p0_goings p0_rowSize p0_ways z_p0_hasField z_p0_fieldSize p0_faultNow p0_hasTree p0_treeSize p0_weightCount p0_roundCount p0_setCount z_p0_by p0_closes z_p0_come z_p0_field z_p0_former p0_needs z_p0_next z_p0_order p0_puts p0_sort p0_takes post A) args s 0 0 A) (F0 m 56 ls [])) : ∀ (n : Nat) (v2 : Int32) (p0_fieldSize : Int32) (p0_hasField : Int32) (p0_by : Nat → Int32) (p0_come : Nat → Int32) (p0_field : Nat → Int32) (p0_former : Nat → Int32) (p0_next : Nat → Int32) (p0_order : Nat → Int32), w_X10_makeField_L20 v1 p0_places p0_steps p0_closes p0_needs p0_puts p0_sort p0_takes post K n v2 p0_fieldSize p0_hasField p0_by p0_come p0_field p0_former p0_next p0_order → ∀ (H : Heap) (locs : List Loc) (ls : Array Slot), va_P (dC, dI) vwCl (wld_X10_makeField cI cJ cZ h_p0 ad_p0 p0_places p0_steps p0_pastFirst p0_past p0_goings p0_rowSize p0_ways p0_hasField p0_fieldSize p0_faultNow p0_hasTree p0_treeSize p0_weightCount p0_roundCount p0_setCount p0_by p0_closes p0_come p0_field p0_former p0_needs p0_next p0_order p0_puts p0_sort p0_takes) H → va_D A (wld_X10_makeField cI cJ cZ h_p0 ad_p0 p0_places p0_steps p0_pastFirst p0_past p0_goings p0_rowSize p0_ways p0_hasField p0_fieldSize p0_faultNow p0_hasTree p0_treeSize p0_weightCount p0_roundCount p0_setCount p0_by p0_closes p0_come p0_field p0_former p0_needs p0_next p0_order p0_puts p0_sort p0_takes) → va_S A s.heap H locs → lv_has ls 3 [(0, .ref h_p0), (1, .int v1), (2, .int v2)] → W p l e ({ frames := 4, cells := 0, slots := 0, locals := 100 }) s m args below meth c H locs 0 0 (MQ below (q_X10_makeField dC dI cI cJ cZ h_p0 ad_p0 p0_places p0_steps p0_pastFirst p0_past p0_goings p0_rowSize p0_ways z_p0_hasField z_p0_fieldSize p0_faultNow p0_hasTree p0_treeSize p0_weightCount p0_roundCount p0_setCount z_p0_by p0_closes z_p0_come z_p0_field z_p0_former p0_needs z_p0_next z_p0_order p0_puts p0_sort p0_takes post A) args s 0 0 A) (F0 m 20 ls []) := by
  obtain ⟨hx, hb, hr, hml, hown, hts, hlocks, hK, hA, n1, n2⟩ := id E0
  have iX10 : ∀ w ∈ u_ws RX10 TX10 50, w ∈ wsX10_makeField := fun w h => List.mem_cons_of_mem _ (List.mem_append_right _ h)
  intro n
  induction n with
  | zero => intro v2 p0_fieldSize p0_hasField p0_by p0_come p0_field p0_former p0_next p0_order hw; exact hw.elim
  | succ n ih =>
    intro v2 p0_fieldSize p0_hasField p0_by p0_come p0_field p0_former p0_next p0_order hw H locs ls hP hD hS hl
    have hw : w_X10_makeField_L20b v1 p0_places p0_steps p0_closes p0_needs p0_puts p0_sort p0_takes post K (w_X10_makeField_L20 v1 p0_places p0_steps p0_closes p0_needs p0_puts p0_sort p0_takes post K n) v2 p0_fieldSize p0_hasField p0_by p0_come p0_field p0_former p0_next p0_order := hw
    unfold w_X10_makeField_L20b at hw
    refine lv_iload_n hx hb dX10_makeField_20 rfl (lv_at hl 2 rfl) ?_
    refine lv_aload_n hx hb dX10_makeField_21 rfl (lv_at hl 0 rfl) ?_
    refine va_get (D := (dC, dI)) (ci := 10) (v := .int p0_fieldSize) (C := RX10) (T := TX10) (N := 50) hx hb hts iX10 hown hK hP 0 rfl rfl 25 (by decide) (hts (.fieldLink RX10 124 "NetHouseModel" "fieldSize" "I") (by decide +kernel)) (fun _ h9 => h9) rfl dX10_makeField_22 ?_
    refine lv_icmp_ge (tgt := 56) hx hb dX10_makeField_25 (by decide) (fun c6 => ?_) (fun c7 => ?_)
    · have hw := hw.1 c6
      exact hk _ _ _ _ _ _ _ _ _ _ _ _ hw hP hD hS (lv_sub hl [0] rfl)
    · have hw := hw.2 c7
      refine lv_aload_n hx hb dX10_makeField_28 rfl (lv_at hl 0 rfl) ?_
      refine lv_iload_n hx hb dX10_makeField_29 rfl (lv_at hl 2 rfl) ?_
      refine lv_iload_n hx hb dX10_makeField_30 rfl (lv_at hl 1 rfl) ?_
      obtain ⟨hPc, hDc⟩ := x_sub (wc := (wld_X10_expand cI cJ cZ h_p0 ad_p0 p0_places p0_steps p0_pastFirst p0_past p0_goings p0_rowSize p0_ways p0_hasField p0_fieldSize p0_faultNow p0_hasTree p0_treeSize p0_weightCount p0_roundCount p0_setCount p0_by p0_closes p0_come p0_field p0_former p0_needs p0_next p0_order p0_puts p0_sort p0_takes)) hP hD [0, 1, 2, 3, 4, 5, 6, 7, 8, 9, 10, 11] (n := 12) rfl rfl (by decide +kernel)
      refine x_calli (ws' := fun (u : (Int32) × (Nat → Int32) × (Nat → Int32) × (Nat → Int32) × (Nat → Int32) × (Nat → Int32) × (Nat → Int32)) => (wld_X10_makeField cI cJ cZ h_p0 ad_p0 p0_places p0_steps p0_pastFirst p0_past p0_goings p0_rowSize p0_ways p0_hasField (u.1) p0_faultNow p0_hasTree p0_treeSize p0_weightCount p0_roundCount p0_setCount (u.2.1) p0_closes (u.2.2.1) (u.2.2.2.1) (u.2.2.2.2.1) p0_needs (u.2.2.2.2.2.1) (u.2.2.2.2.2.2) p0_puts p0_sort p0_takes)) hP hD hS hA [0, 1, 2, 3, 4, 5, 6, 7, 8, 9, 10, 11] [] [0, 1, 2, 3, 4, 5, 6, 7, 8, 9, 10, 11] (n := 12) (k := 12) rfl (fun _ => rfl) rfl (by decide +kernel) (fun _ => rfl) (va_runV (As := [.int v2, .int v1]) (rest := []) ⟨hx, hb, hml, hown, hts⟩ (c_X10_expand (l := l) (dC := dC) (dI := dI) (cI := cI) (cJ := cJ) (cZ := cZ) (sz := H.size) (h_p0 := h_p0) (ad_p0 := ad_p0) (p0_places := p0_places) (p0_steps := p0_steps) (p0_pastFirst := p0_pastFirst) (p0_past := p0_past) (p0_goings := p0_goings) (p0_rowSize := p0_rowSize) (p0_ways := p0_ways) (p0_hasField := p0_hasField) (p0_fieldSize := p0_fieldSize) (p0_faultNow := p0_faultNow) (p0_hasTree := p0_hasTree) (p0_treeSize := p0_treeSize) (p0_weightCount := p0_weightCount) (p0_roundCount := p0_roundCount) (p0_setCount := p0_setCount) (p0_by := p0_by) (p0_closes := p0_closes) (p0_come := p0_come) (p0_field := p0_field) (p0_former := p0_former) (p0_needs := p0_needs) (p0_next := p0_next) (p0_order := p0_order) (p0_puts := p0_puts) (p0_sort := p0_sort) (p0_takes := p0_takes) hw) (cwV 2 hts gX10_makeField_X10_expand rfl rfl rfl (by decide +kernel) ⟨Nat.le_of_ble_eq_true rfl, Nat.le_of_ble_eq_true rfl⟩) ⟨xPre_blind, va_recv hK hP (ci := 10) (q0 := 0) rfl rfl, xPre_at hK hPc hDc n1 n2⟩ rfl rfl hl.1 rfl (lv_room (Nat.le_of_ble_eq_true rfl)) dX10_makeField_31 ⟨Nat.zero_le _, Nat.zero_le _⟩) (fun r8 u H locs hw hP hD hS => ?_)
      obtain ⟨y9, y10, y11, y12, y13, y14, y15⟩ := u
      try dsimp only at hw
      have hP : va_P (dC, dI) vwCl (wld_X10_makeField cI cJ cZ h_p0 ad_p0 p0_places p0_steps p0_pastFirst p0_past p0_goings p0_rowSize p0_ways p0_hasField y9 p0_faultNow p0_hasTree p0_treeSize p0_weightCount p0_roundCount p0_setCount y10 p0_closes y11 y12 y13 p0_needs y14 y15 p0_puts p0_sort p0_takes) H := hP
      have hD : va_D A (wld_X10_makeField cI cJ cZ h_p0 ad_p0 p0_places p0_steps p0_pastFirst p0_past p0_goings p0_rowSize p0_ways p0_hasField y9 p0_faultNow p0_hasTree p0_treeSize p0_weightCount p0_roundCount p0_setCount y10 p0_closes y11 y12 y13 p0_needs y14 y15 p0_puts p0_sort p0_takes) := hD
      refine lv_if_ne (tgt := 50) hx hb dX10_makeField_34 (by decide) (fun c16 => ?_) (fun c17 => ?_)
      · have hw := hw.1 c16
        obtain ⟨x18, ex18⟩ : ∃ y : Int32, y = v2 + (1 : Int32) := ⟨_, rfl⟩
        have hw := hw x18 ex18
        refine lv_iinc (v := x18) (lv' := [(2, .int x18), (0, .ref h_p0), (1, .int v1)]) hx hb dX10_makeField_50 hl (k := 2) rfl (by rw [ex18]; rfl) (by decide) rfl (fun ls hl => ?_)
        refine lv_goto (tgt := 20) hx hb dX10_makeField_53 (by decide) ?_
        exact ih _ _ _ _ _ _ _ _ _ hw _ _ _ hP hD hS (lv_sub hl [1, 2, 0] rfl)
      · have hw := hw.2 c17
        refine lv_aload_n hx hb dX10_makeField_37 rfl (lv_at hl 0 rfl) ?_
        refine lv_iconst (v := 0) hx hb dX10_makeField_38 (by decide) ?_
        refine va_put (D := (dC, dI)) (ci := 10) (v := .int (0 : Int32)) (ty := .boolean) (C := RX10) (T := TX10) (N := 50) hx hb hts iX10 tyX10 tyX10_ok nmX10 hown hK hP hD hS 0 rfl rfl 24 (by decide) (hts (.fieldLink RX10 133 "NetHouseModel" "hasField" "Z") (by decide +kernel)) (fun _ h9 => h9) rfl (by decide +kernel) (by decide) (by decide) (Nat.le_of_ble_eq_true rfl) dX10_makeField_39 (fun H locs hP hD hS => ?_)
        have hP : va_P (dC, dI) vwCl (wld_X10_makeField cI cJ cZ h_p0 ad_p0 p0_places p0_steps p0_pastFirst p0_past p0_goings p0_rowSize p0_ways (0 : Int32) y9 p0_faultNow p0_hasTree p0_treeSize p0_weightCount p0_roundCount p0_setCount y10 p0_closes y11 y12 y13 p0_needs y14 y15 p0_puts p0_sort p0_takes) H := hP
        have hD : va_D A (wld_X10_makeField cI cJ cZ h_p0 ad_p0 p0_places p0_steps p0_pastFirst p0_past p0_goings p0_rowSize p0_ways (0 : Int32) y9 p0_faultNow p0_hasTree p0_treeSize p0_weightCount p0_roundCount p0_setCount y10 p0_closes y11 y12 y13 p0_needs y14 y15 p0_puts p0_sort p0_takes) := hD
        refine lv_aload_n hx hb dX10_makeField_42 rfl (lv_at hl 0 rfl) ?_
        refine lv_iconst (v := 0) hx hb dX10_makeField_43 (by decide) ?_
        refine va_put (D := (dC, dI)) (ci := 10) (v := .int (0 : Int32)) (ty := .int) (C := RX10) (T := TX10) (N := 50) hx hb hts iX10 tyX10 tyX10_ok nmX10 hown hK hP hD hS 0 rfl rfl 25 (by decide) (hts (.fieldLink RX10 124 "NetHouseModel" "fieldSize" "I") (by decide +kernel)) (fun _ h9 => h9) rfl (by decide +kernel) rfl rfl (Nat.le_of_ble_eq_true rfl) dX10_makeField_44 (fun H locs hP hD hS => ?_)
        have hP : va_P (dC, dI) vwCl (wld_X10_makeField cI cJ cZ h_p0 ad_p0 p0_places p0_steps p0_pastFirst p0_past p0_goings p0_rowSize p0_ways (0 : Int32) (0 : Int32) p0_faultNow p0_hasTree p0_treeSize p0_weightCount p0_roundCount p0_setCount y10 p0_closes y11 y12 y13 p0_needs y14 y15 p0_puts p0_sort p0_takes) H := hP
        have hD : va_D A (wld_X10_makeField cI cJ cZ h_p0 ad_p0 p0_places p0_steps p0_pastFirst p0_past p0_goings p0_rowSize p0_ways (0 : Int32) (0 : Int32) p0_faultNow p0_hasTree p0_treeSize p0_weightCount p0_roundCount p0_setCount y10 p0_closes y11 y12 y13 p0_needs y14 y15 p0_puts p0_sort p0_takes) := hD
        refine lv_ldc (v := -2000000004) hx hb hown (hts (.constant RX10 251 (-2000000004)) (by decide +kernel)) dX10_makeField_47 ?_
        exact x_iret (w1 := fun (u : (Int32) × (Int32) × (Nat → Int32) × (Nat → Int32) × (Nat → Int32) × (Nat → Int32) × (Nat → Int32) × (Nat → Int32)) => (wld_X10_makeField cI cJ cZ h_p0 ad_p0 p0_places p0_steps p0_pastFirst p0_past p0_goings p0_rowSize p0_ways (u.2.1) (u.1) p0_faultNow p0_hasTree p0_treeSize p0_weightCount p0_roundCount p0_setCount (u.2.2.1) p0_closes (u.2.2.2.1) (u.2.2.2.2.1) (u.2.2.2.2.2.1) p0_needs (u.2.2.2.2.2.2.1) (u.2.2.2.2.2.2.2) p0_puts p0_sort p0_takes)) hx hb hr hlocks ((0 : Int32), (0 : Int32), y10, y11, y12, y13, y14, y15) hw hP hD hS dX10_makeField_49
set_option maxHeartbeats 4000000 in
set_option maxRecDepth 100000 in
theorem c_X10_makeField {l : Launch} {dC : Nat → ClassId} {dI : Nat → Nat → Nat} {sz : Nat} {cI cJ cZ : ClassId} {h_p0 : Nat} {ad_p0 : Nat → Nat} {p0_places : Int32} {p0_steps : Int32} {p0_pastFirst : Int32} {p0_past : Int32} {p0_goings : Int32} {p0_rowSize : Int32} {p0_ways : Int32} {p0_hasField : Int32} {p0_fieldSize : Int32} {p0_faultNow : Int32} {p0_hasTree : Int32} {p0_treeSize : Int32} {p0_weightCount : Int32} {p0_roundCount : Int32} {p0_setCount : Int32} {p0_by : Nat → Int32} {p0_closes : Nat → Int32} {p0_come : Nat → Int32} {p0_field : Nat → Int32} {p0_former : Nat → Int32} {p0_needs : Nat → Int32} {p0_next : Nat → Int32} {p0_order : Nat → Int32} {p0_puts : Nat → Int32} {p0_sort : Nat → Int32} {p0_takes : Nat → Int32} {a1 : Int32} {post : Int32 → (Int32) → (Int32) → (Nat → Int32) → (Nat → Int32) → (Nat → Int32) → (Nat → Int32) → (Nat → Int32) → (Nat → Int32) → Prop} (hw : w_X10_makeField p0_fieldSize p0_hasField p0_places p0_steps p0_by p0_closes p0_come p0_field p0_former p0_needs p0_next p0_order p0_puts p0_sort p0_takes a1 post) : Met l yX10_makeField wsX10_makeField ({ frames := 4, cells := 0, slots := 0, locals := 100 }) (va_Pc [.ref h_p0, .int a1] (xPre (dC, dI) cI cJ cZ (wld_X10_makeField cI cJ cZ h_p0 ad_p0 p0_places p0_steps p0_pastFirst p0_past p0_goings p0_rowSize p0_ways p0_hasField p0_fieldSize p0_faultNow p0_hasTree p0_treeSize p0_weightCount p0_roundCount p0_setCount p0_by p0_closes p0_come p0_field p0_former p0_needs p0_next p0_order p0_puts p0_sort p0_takes) sz)) (q_X10_makeField dC dI cI cJ cZ h_p0 ad_p0 p0_places p0_steps p0_pastFirst p0_past p0_goings p0_rowSize p0_ways p0_hasField p0_fieldSize p0_faultNow p0_hasTree p0_treeSize p0_weightCount p0_roundCount p0_setCount p0_by p0_closes p0_come p0_field p0_former p0_needs p0_next p0_order p0_puts p0_sort p0_takes post (va_A (wld_X10_makeField cI cJ cZ h_p0 ad_p0 p0_places p0_steps p0_pastFirst p0_past p0_goings p0_rowSize p0_ways p0_hasField p0_fieldSize p0_faultNow p0_hasTree p0_treeSize p0_weightCount p0_roundCount p0_setCount p0_by p0_closes p0_come p0_field p0_former p0_needs p0_next p0_order p0_puts p0_sort p0_takes) sz)) 0 0 (va_A (wld_X10_makeField cI cJ cZ h_p0 ad_p0 p0_places p0_steps p0_pastFirst p0_past p0_goings p0_rowSize p0_ways p0_hasField p0_fieldSize p0_faultNow p0_hasTree p0_treeSize p0_weightCount p0_roundCount p0_setCount p0_by p0_closes p0_come p0_field p0_former p0_needs p0_next p0_order p0_puts p0_sort p0_takes) sz) := by
  refine x_met (cc := cX10_makeField) (maxL := 3) (ret := (some .int)) (own := RX10) (Qc := fun A => (q_X10_makeField dC dI cI cJ cZ h_p0 ad_p0 p0_places p0_steps p0_pastFirst p0_past p0_goings p0_rowSize p0_ways p0_hasField p0_fieldSize p0_faultNow p0_hasTree p0_treeSize p0_weightCount p0_roundCount p0_setCount p0_by p0_closes p0_come p0_field p0_former p0_needs p0_next p0_order p0_puts p0_sort p0_takes post A)) (by decide) rfl rfl (Nat.le_of_ble_eq_true rfl) ?_
  intro p e s m args below meth c A ls E0 hP hD hS hl
  obtain ⟨hx, hb, hr, hml, hown, hts, hlocks, hK, hA, n1, n2⟩ := id E0
  have iX10 : ∀ w ∈ u_ws RX10 TX10 50, w ∈ wsX10_makeField := fun w h => List.mem_cons_of_mem _ (List.mem_append_right _ h)
  have hS0 := hS
  have hl : lv_has ls 3 [(0, .ref h_p0), (1, .int a1)] := hl
  unfold w_X10_makeField at hw
  obtain ⟨H, hH⟩ : ∃ H, H = s.heap := ⟨_, rfl⟩
  have hS : va_S A s.heap H [] := by rw [hH]; exact hS
  have hP : va_P (dC, dI) vwCl (wld_X10_makeField cI cJ cZ h_p0 ad_p0 p0_places p0_steps p0_pastFirst p0_past p0_goings p0_rowSize p0_ways p0_hasField p0_fieldSize p0_faultNow p0_hasTree p0_treeSize p0_weightCount p0_roundCount p0_setCount p0_by p0_closes p0_come p0_field p0_former p0_needs p0_next p0_order p0_puts p0_sort p0_takes) H := by rw [hH]; exact hP
  suffices hG : W p l e ({ frames := 4, cells := 0, slots := 0, locals := 100 }) s m args below meth c H [] 0 0 (MQ below (q_X10_makeField dC dI cI cJ cZ h_p0 ad_p0 p0_places p0_steps p0_pastFirst p0_past p0_goings p0_rowSize p0_ways p0_hasField p0_fieldSize p0_faultNow p0_hasTree p0_treeSize p0_weightCount p0_roundCount p0_setCount p0_by p0_closes p0_come p0_field p0_former p0_needs p0_next p0_order p0_puts p0_sort p0_takes post A) args s 0 0 A) (F0 m 0 ls []) by rw [hH] at hG; exact hG
  clear hH
  refine lv_aload_n hx hb dX10_makeField_0 rfl (lv_at hl 0 rfl) ?_
  refine lv_iconst (v := 0) hx hb dX10_makeField_1 (by decide) ?_
  refine va_put (D := (dC, dI)) (ci := 10) (v := .int (0 : Int32)) (ty := .int) (C := RX10) (T := TX10) (N := 50) hx hb hts iX10 tyX10 tyX10_ok nmX10 hown hK hP hD hS 0 rfl rfl 25 (by decide) (hts (.fieldLink RX10 124 "NetHouseModel" "fieldSize" "I") (by decide +kernel)) (fun _ h9 => h9) rfl (by decide +kernel) rfl rfl (Nat.le_of_ble_eq_true rfl) dX10_makeField_2 (fun H locs hP hD hS => ?_)
  have hP : va_P (dC, dI) vwCl (wld_X10_makeField cI cJ cZ h_p0 ad_p0 p0_places p0_steps p0_pastFirst p0_past p0_goings p0_rowSize p0_ways p0_hasField (0 : Int32) p0_faultNow p0_hasTree p0_treeSize p0_weightCount p0_roundCount p0_setCount p0_by p0_closes p0_come p0_field p0_former p0_needs p0_next p0_order p0_puts p0_sort p0_takes) H := hP
  have hD : va_D A (wld_X10_makeField cI cJ cZ h_p0 ad_p0 p0_places p0_steps p0_pastFirst p0_past p0_goings p0_rowSize p0_ways p0_hasField (0 : Int32) p0_faultNow p0_hasTree p0_treeSize p0_weightCount p0_roundCount p0_setCount p0_by p0_closes p0_come p0_field p0_former p0_needs p0_next p0_order p0_puts p0_sort p0_takes) := hD
  refine lv_aload_n hx hb dX10_makeField_5 rfl (lv_at hl 0 rfl) ?_
  refine lv_ldc (v := -2000000005) hx hb hown (hts (.constant RX10 85 (-2000000005)) (by decide +kernel)) dX10_makeField_6 ?_
  refine lv_ldc (v := -2000000005) hx hb hown (hts (.constant RX10 85 (-2000000005)) (by decide +kernel)) dX10_makeField_8 ?_
  obtain ⟨hPc, hDc⟩ := x_sub (wc := (wld_X10_addMarking cI cJ cZ h_p0 ad_p0 p0_places p0_steps p0_pastFirst p0_past p0_goings p0_rowSize p0_ways p0_hasField (0 : Int32) p0_faultNow p0_hasTree p0_treeSize p0_weightCount p0_roundCount p0_setCount p0_by p0_come p0_field p0_former p0_order)) hP hD [0, 1, 3, 4, 5, 8] (n := 12) rfl rfl (by decide +kernel)
  refine x_callv (ws' := fun (u : (Int32) × (Nat → Int32) × (Nat → Int32) × (Nat → Int32) × (Nat → Int32)) => (wld_X10_makeField cI cJ cZ h_p0 ad_p0 p0_places p0_steps p0_pastFirst p0_past p0_goings p0_rowSize p0_ways p0_hasField (u.1) p0_faultNow p0_hasTree p0_treeSize p0_weightCount p0_roundCount p0_setCount (u.2.1) p0_closes p0_come (u.2.2.1) (u.2.2.2.1) p0_needs p0_next (u.2.2.2.2) p0_puts p0_sort p0_takes)) hP hD hS hA [0, 1, 3, 4, 5, 8] [2, 6, 7, 9, 10, 11] [6, 7, 0, 8, 9, 10, 1, 2, 11, 3, 4, 5] (n := 12) (k := 6) rfl (fun _ => rfl) rfl (by decide +kernel) (fun _ => rfl) (va_runV (As := [.int (-2000000005 : Int32), .int (-2000000005 : Int32)]) (rest := []) ⟨hx, hb, hml, hown, hts⟩ (c_X10_addMarking (l := l) (dC := dC) (dI := dI) (cI := cI) (cJ := cJ) (cZ := cZ) (sz := H.size) (h_p0 := h_p0) (ad_p0 := ad_p0) (p0_places := p0_places) (p0_steps := p0_steps) (p0_pastFirst := p0_pastFirst) (p0_past := p0_past) (p0_goings := p0_goings) (p0_rowSize := p0_rowSize) (p0_ways := p0_ways) (p0_hasField := p0_hasField) (p0_fieldSize := (0 : Int32)) (p0_faultNow := p0_faultNow) (p0_hasTree := p0_hasTree) (p0_treeSize := p0_treeSize) (p0_weightCount := p0_weightCount) (p0_roundCount := p0_roundCount) (p0_setCount := p0_setCount) (p0_by := p0_by) (p0_come := p0_come) (p0_field := p0_field) (p0_former := p0_former) (p0_order := p0_order) hw) (cwV 2 hts gX10_makeField_X10_addMarking rfl rfl rfl (by decide +kernel) ⟨Nat.le_of_ble_eq_true rfl, Nat.le_of_ble_eq_true rfl⟩) ⟨xPre_blind, va_recv hK hP (ci := 10) (q0 := 0) rfl rfl, xPre_at hK hPc hDc n1 n2⟩ rfl rfl hl.1 rfl (lv_room (Nat.le_of_ble_eq_true rfl)) dX10_makeField_10 ⟨Nat.zero_le _, Nat.zero_le _⟩) (fun u H locs hw hP hD hS => ?_)
  obtain ⟨y1, y2, y3, y4, y5⟩ := u
  try dsimp only at hw
  have hP : va_P (dC, dI) vwCl (wld_X10_makeField cI cJ cZ h_p0 ad_p0 p0_places p0_steps p0_pastFirst p0_past p0_goings p0_rowSize p0_ways p0_hasField y1 p0_faultNow p0_hasTree p0_treeSize p0_weightCount p0_roundCount p0_setCount y2 p0_closes p0_come y3 y4 p0_needs p0_next y5 p0_puts p0_sort p0_takes) H := hP
  have hD : va_D A (wld_X10_makeField cI cJ cZ h_p0 ad_p0 p0_places p0_steps p0_pastFirst p0_past p0_goings p0_rowSize p0_ways p0_hasField y1 p0_faultNow p0_hasTree p0_treeSize p0_weightCount p0_roundCount p0_setCount y2 p0_closes p0_come y3 y4 p0_needs p0_next y5 p0_puts p0_sort p0_takes) := hD
  refine lv_aload_n hx hb dX10_makeField_13 rfl (lv_at hl 0 rfl) ?_
  refine lv_iconst (v := 1) hx hb dX10_makeField_14 (by decide) ?_
  refine va_put (D := (dC, dI)) (ci := 10) (v := .int (1 : Int32)) (ty := .boolean) (C := RX10) (T := TX10) (N := 50) hx hb hts iX10 tyX10 tyX10_ok nmX10 hown hK hP hD hS 0 rfl rfl 24 (by decide) (hts (.fieldLink RX10 133 "NetHouseModel" "hasField" "Z") (by decide +kernel)) (fun _ h9 => h9) rfl (by decide +kernel) (by decide) (by decide) (Nat.le_of_ble_eq_true rfl) dX10_makeField_15 (fun H locs hP hD hS => ?_)
  have hP : va_P (dC, dI) vwCl (wld_X10_makeField cI cJ cZ h_p0 ad_p0 p0_places p0_steps p0_pastFirst p0_past p0_goings p0_rowSize p0_ways (1 : Int32) y1 p0_faultNow p0_hasTree p0_treeSize p0_weightCount p0_roundCount p0_setCount y2 p0_closes p0_come y3 y4 p0_needs p0_next y5 p0_puts p0_sort p0_takes) H := hP
  have hD : va_D A (wld_X10_makeField cI cJ cZ h_p0 ad_p0 p0_places p0_steps p0_pastFirst p0_past p0_goings p0_rowSize p0_ways (1 : Int32) y1 p0_faultNow p0_hasTree p0_treeSize p0_weightCount p0_roundCount p0_setCount y2 p0_closes p0_come y3 y4 p0_needs p0_next y5 p0_puts p0_sort p0_takes) := hD
  refine lv_iconst (v := 0) hx hb dX10_makeField_18 (by decide) ?_
  refine lv_istore_n (lv' := [(2, .int (0 : Int32)), (0, .ref h_p0), (1, .int a1)]) hx hb dX10_makeField_19 rfl hl (by decide) rfl (fun ls hl => ?_)
  obtain ⟨n19, hw⟩ := hw
  refine c_X10_makeField_L20 (l := l) (z_p0_fieldSize := y1) (z_p0_hasField := (1 : Int32)) (z_p0_by := y2) (z_p0_come := p0_come) (z_p0_field := y3) (z_p0_former := y4) (z_p0_next := p0_next) (z_p0_order := y5) E0 ?_ n19 _ _ _ _ _ _ _ _ _ hw _ _ _ hP hD hS (lv_sub hl [1, 2, 0] rfl)
  · intro v20 s21 s22 s23 s24 s25 s26 s27 s28 H locs ls hw hP hD hS hl
    have hP : va_P (dC, dI) vwCl (wld_X10_makeField cI cJ cZ h_p0 ad_p0 p0_places p0_steps p0_pastFirst p0_past p0_goings p0_rowSize p0_ways s22 s21 p0_faultNow p0_hasTree p0_treeSize p0_weightCount p0_roundCount p0_setCount s23 p0_closes s24 s25 s26 p0_needs s27 s28 p0_puts p0_sort p0_takes) H := hP
    have hD : va_D A (wld_X10_makeField cI cJ cZ h_p0 ad_p0 p0_places p0_steps p0_pastFirst p0_past p0_goings p0_rowSize p0_ways s22 s21 p0_faultNow p0_hasTree p0_treeSize p0_weightCount p0_roundCount p0_setCount s23 p0_closes s24 s25 s26 p0_needs s27 s28 p0_puts p0_sort p0_takes) := hD
    refine lv_aload_n hx hb dX10_makeField_56 rfl (lv_at hl 0 rfl) ?_
    refine va_get (D := (dC, dI)) (ci := 10) (v := .int s21) (C := RX10) (T := TX10) (N := 50) hx hb hts iX10 hown hK hP 0 rfl rfl 25 (by decide) (hts (.fieldLink RX10 124 "NetHouseModel" "fieldSize" "I") (by decide +kernel)) (fun _ h9 => h9) rfl dX10_makeField_57 ?_
    exact x_iret (w1 := fun (u : (Int32) × (Int32) × (Nat → Int32) × (Nat → Int32) × (Nat → Int32) × (Nat → Int32) × (Nat → Int32) × (Nat → Int32)) => (wld_X10_makeField cI cJ cZ h_p0 ad_p0 p0_places p0_steps p0_pastFirst p0_past p0_goings p0_rowSize p0_ways (u.2.1) (u.1) p0_faultNow p0_hasTree p0_treeSize p0_weightCount p0_roundCount p0_setCount (u.2.2.1) p0_closes (u.2.2.2.1) (u.2.2.2.2.1) (u.2.2.2.2.2.1) p0_needs (u.2.2.2.2.2.2.1) (u.2.2.2.2.2.2.2) p0_puts p0_sort p0_takes)) hx hb hr hlocks (s21, s22, s23, s24, s25, s26, s27, s28) hw hP hD hS dX10_makeField_60
abbrev wld_X10_field (cI cJ cZ : ClassId) (h_p0 : Nat) (ad_p0 : Nat → Nat) (p0_places : Int32) (p0_steps : Int32) (p0_pastFirst : Int32) (p0_past : Int32) (p0_goings : Int32) (p0_rowSize : Int32) (p0_ways : Int32) (p0_hasField : Int32) (p0_fieldSize : Int32) (p0_faultNow : Int32) (p0_hasTree : Int32) (p0_treeSize : Int32) (p0_weightCount : Int32) (p0_roundCount : Int32) (p0_setCount : Int32) (p0_by : Nat → Int32) (p0_closes : Nat → Int32) (p0_colour : Nat → Int32) (p0_come : Nat → Int32) (p0_field : Nat → Int32) (p0_former : Nat → Int32) (p0_has : Nat → Int32) (p0_needs : Nat → Int32) (p0_next : Nat → Int32) (p0_order : Nat → Int32) (p0_puts : Nat → Int32) (p0_sort : Nat → Int32) (p0_takes : Nat → Int32) : va_W := [(h_p0, .inr (10, [.int p0_places, .int p0_steps, .ref (ad_p0 2), .ref (ad_p0 3), .ref (ad_p0 4), .ref (ad_p0 5), .ref (ad_p0 6), .ref (ad_p0 7), .ref (ad_p0 8), .ref (ad_p0 9), .ref (ad_p0 10), .ref (ad_p0 11), .ref (ad_p0 12), .ref (ad_p0 13), .ref (ad_p0 14), .int p0_pastFirst, .int p0_past, .int p0_goings, .int p0_rowSize, .ref (ad_p0 19), .ref (ad_p0 20), .int p0_ways, .ref (ad_p0 22), .ref (ad_p0 23), .int p0_hasField, .int p0_fieldSize, .ref (ad_p0 26), .ref (ad_p0 27), .ref (ad_p0 28), .ref (ad_p0 29), .ref (ad_p0 30), .ref (ad_p0 31), .ref (ad_p0 32), .int p0_faultNow, .int p0_hasTree, .int p0_treeSize, .ref (ad_p0 36), .ref (ad_p0 37), .ref (ad_p0 38), .ref (ad_p0 39), .ref (ad_p0 40), .ref (ad_p0 41), .ref (ad_p0 42), .int p0_weightCount, .ref (ad_p0 44), .int p0_roundCount, .ref (ad_p0 46), .int p0_setCount, .ref (ad_p0 48), .ref (ad_p0 49)])), ((ad_p0 29), .inl (cI, 8000, .inl p0_by)), ((ad_p0 7), .inl (cI, 256, .inl p0_closes)), ((ad_p0 2), .inl (cI, 16, .inl p0_colour)), ((ad_p0 31), .inl (cI, 16, .inl p0_come)), ((ad_p0 26), .inl (cI, 128000, .inl p0_field)), ((ad_p0 28), .inl (cI, 8000, .inl p0_former)), ((ad_p0 10), .inl (cI, 16, .inl p0_has)), ((ad_p0 6), .inl (cI, 256, .inl p0_needs)), ((ad_p0 30), .inl (cI, 128000, .inl p0_next)), ((ad_p0 27), .inl (cI, 8000, .inl p0_order)), ((ad_p0 5), .inl (cI, 256, .inl p0_puts)), ((ad_p0 3), .inl (cI, 16, .inl p0_sort)), ((ad_p0 4), .inl (cI, 256, .inl p0_takes))]
abbrev q_X10_field (dC : Nat → ClassId) (dI : Nat → Nat → Nat) (cI cJ cZ : ClassId) (h_p0 : Nat) (ad_p0 : Nat → Nat) (p0_places : Int32) (p0_steps : Int32) (p0_pastFirst : Int32) (p0_past : Int32) (p0_goings : Int32) (p0_rowSize : Int32) (p0_ways : Int32) (p0_hasField : Int32) (p0_fieldSize : Int32) (p0_faultNow : Int32) (p0_hasTree : Int32) (p0_treeSize : Int32) (p0_weightCount : Int32) (p0_roundCount : Int32) (p0_setCount : Int32) (p0_by : Nat → Int32) (p0_closes : Nat → Int32) (p0_colour : Nat → Int32) (p0_come : Nat → Int32) (p0_field : Nat → Int32) (p0_former : Nat → Int32) (p0_has : Nat → Int32) (p0_needs : Nat → Int32) (p0_next : Nat → Int32) (p0_order : Nat → Int32) (p0_puts : Nat → Int32) (p0_sort : Nat → Int32) (p0_takes : Nat → Int32) (post : Int32 → (Int32) → (Int32) → (Nat → Int32) → (Nat → Int32) → (Nat → Int32) → (Nat → Int32) → (Nat → Int32) → (Nat → Int32) → Prop) (A : Nat → Prop) : Array Value → State → Outcome → State → Prop := va_Qi (fun r (u : (Int32) × (Int32) × (Nat → Int32) × (Nat → Int32) × (Nat → Int32) × (Nat → Int32) × (Nat → Int32) × (Nat → Int32)) => post r (u.1) (u.2.1) (u.2.2.1) (u.2.2.2.1) (u.2.2.2.2.1) (u.2.2.2.2.2.1) (u.2.2.2.2.2.2.1) (u.2.2.2.2.2.2.2)) (fun (u : (Int32) × (Int32) × (Nat → Int32) × (Nat → Int32) × (Nat → Int32) × (Nat → Int32) × (Nat → Int32) × (Nat → Int32)) t => xPost (dC, dI) A (wld_X10_field cI cJ cZ h_p0 ad_p0 p0_places p0_steps p0_pastFirst p0_past p0_goings p0_rowSize p0_ways (u.2.1) (u.1) p0_faultNow p0_hasTree p0_treeSize p0_weightCount p0_roundCount p0_setCount (u.2.2.1) p0_closes p0_colour (u.2.2.2.1) (u.2.2.2.2.1) (u.2.2.2.2.2.1) p0_has p0_needs (u.2.2.2.2.2.2.1) (u.2.2.2.2.2.2.2) p0_puts p0_sort p0_takes) t) A
def w_X10_field_L26b (v1 : Int32) (p0_fieldSize : Int32) (p0_hasField : Int32) (p0_places : Int32) (p0_steps : Int32) (p0_by : Nat → Int32) (p0_closes : Nat → Int32) (p0_colour : Nat → Int32) (p0_field : Nat → Int32) (p0_former : Nat → Int32) (p0_has : Nat → Int32) (p0_needs : Nat → Int32) (p0_next : Nat → Int32) (p0_order : Nat → Int32) (p0_puts : Nat → Int32) (p0_sort : Nat → Int32) (p0_takes : Nat → Int32) (post : Int32 → (Int32) → (Int32) → (Nat → Int32) → (Nat → Int32) → (Nat → Int32) → (Nat → Int32) → (Nat → Int32) → (Nat → Int32) → Prop) (K : (Int32) → (Nat → Int32) → Prop) (rec : (Int32) → (Nat → Int32) → Prop) (v2 : Int32) (p0_come : Nat → Int32) : Prop :=
    (p0_places ≤ v2 →
      K v2 p0_come) ∧
    (¬ p0_places ≤ v2 →
      vp_in v2 16 ∧
      vp_in v2 16 ∧
      ∀ x9 : Int32, x9 = v2 + (1 : Int32) →
      rec x9 (upd p0_come v2.toNatClampNeg (p0_has v2.toNatClampNeg)))
def w_X10_field_L26 (v1 : Int32) (p0_fieldSize : Int32) (p0_hasField : Int32) (p0_places : Int32) (p0_steps : Int32) (p0_by : Nat → Int32) (p0_closes : Nat → Int32) (p0_colour : Nat → Int32) (p0_field : Nat → Int32) (p0_former : Nat → Int32) (p0_has : Nat → Int32) (p0_needs : Nat → Int32) (p0_next : Nat → Int32) (p0_order : Nat → Int32) (p0_puts : Nat → Int32) (p0_sort : Nat → Int32) (p0_takes : Nat → Int32) (post : Int32 → (Int32) → (Int32) → (Nat → Int32) → (Nat → Int32) → (Nat → Int32) → (Nat → Int32) → (Nat → Int32) → (Nat → Int32) → Prop) (K : (Int32) → (Nat → Int32) → Prop) : Nat → (Int32) → (Nat → Int32) → Prop
  | 0, _, _ => False
  | n + 1, v2, p0_come => w_X10_field_L26b v1 p0_fieldSize p0_hasField p0_places p0_steps p0_by p0_closes p0_colour p0_field p0_former p0_has p0_needs p0_next p0_order p0_puts p0_sort p0_takes post K (w_X10_field_L26 v1 p0_fieldSize p0_hasField p0_places p0_steps p0_by p0_closes p0_colour p0_field p0_former p0_has p0_needs p0_next p0_order p0_puts p0_sort p0_takes post K n) v2 p0_come
def w_X10_field (p0_fieldSize : Int32) (p0_hasField : Int32) (p0_places : Int32) (p0_steps : Int32) (p0_by : Nat → Int32) (p0_closes : Nat → Int32) (p0_colour : Nat → Int32) (p0_come : Nat → Int32) (p0_field : Nat → Int32) (p0_former : Nat → Int32) (p0_has : Nat → Int32) (p0_needs : Nat → Int32) (p0_next : Nat → Int32) (p0_order : Nat → Int32) (p0_puts : Nat → Int32) (p0_sort : Nat → Int32) (p0_takes : Nat → Int32) (a1 : Int32) (post : Int32 → (Int32) → (Int32) → (Nat → Int32) → (Nat → Int32) → (Nat → Int32) → (Nat → Int32) → (Nat → Int32) → (Nat → Int32) → Prop) : Prop :=
  w_X10_isIn a1 (1 : Int32) (8000 : Int32) (fun r1 =>
  (¬ r1 = 0 →
    w_X10_hasColour p0_places p0_colour (fun r4 =>
    (r4 = 0 →
      ∃ n : Nat, w_X10_field_L26 a1 p0_fieldSize p0_hasField p0_places p0_steps p0_by p0_closes p0_colour p0_field p0_former p0_has p0_needs p0_next p0_order p0_puts p0_sort p0_takes post (fun v11 s12 =>
          w_X10_makeField p0_fieldSize p0_hasField p0_places p0_steps p0_by p0_closes s12 p0_field p0_former p0_needs p0_next p0_order p0_puts p0_sort p0_takes a1 (fun r13 y14 y15 y16 y17 y18 y19 y20 y21 =>
          (post r13 y14 y15 y16 y17 y18 y19 y20 y21))) n (0 : Int32) p0_come) ∧
    (¬ r4 = 0 →
      (post (-2000000002 : Int32) p0_fieldSize p0_hasField p0_by p0_come p0_field p0_former p0_next p0_order)))) ∧
  (r1 = 0 →
    (post (-2000000001 : Int32) p0_fieldSize p0_hasField p0_by p0_come p0_field p0_former p0_next p0_order)))
set_option maxHeartbeats 4000000 in
set_option maxRecDepth 100000 in
theorem c_X10_field_L26 {p : Program} {l : Launch} {e : Env} {s : State} {m : MethodId} {args : Array Value} {below : List Frame} {meth : Method} {c : Code} {dC : Nat → ClassId} {dI : Nat → Nat → Nat} {A : Nat → Prop} {cI cJ cZ : ClassId} {h_p0 : Nat} {ad_p0 : Nat → Nat} {p0_places : Int32} {p0_steps : Int32} {p0_pastFirst : Int32} {p0_past : Int32} {p0_goings : Int32} {p0_rowSize : Int32} {p0_ways : Int32} {p0_hasField : Int32} {p0_fieldSize : Int32} {p0_faultNow : Int32} {p0_hasTree : Int32} {p0_treeSize : Int32} {p0_weightCount : Int32} {p0_roundCount : Int32} {p0_setCount : Int32} {p0_by : Nat → Int32} {p0_closes : Nat → Int32} {p0_colour : Nat → Int32} {p0_field : Nat → Int32} {p0_former : Nat → Int32} {p0_has : Nat → Int32} {p0_needs : Nat → Int32} {p0_next : Nat → Int32} {p0_order : Nat → Int32} {p0_puts : Nat → Int32} {p0_sort : Nat → Int32} {p0_takes : Nat → Int32} {v1 : Int32} {z_p0_come : Nat → Int32} {post : Int32 → (Int32) → (Int32) → (Nat → Int32) → (Nat → Int32) → (Nat → Int32) → (Nat → Int32) → (Nat → Int32) → (Nat → Int32) → Prop} {K : (Int32) → (Nat → Int32) → Prop} (E0 : xEnv p s m args meth c cX10_field (some .int) 3 RX10 wsX10_field (dC, dI) cI cJ cZ A) (hk : ∀ (v2 : Int32) (p0_come : Nat → Int32) (H : Heap) (locs : List Loc) (ls : Array Slot), K v2 p0_come → va_P (dC, dI) vwCl (wld_X10_field cI cJ cZ h_p0 ad_p0 p0_places p0_steps p0_pastFirst p0_past p0_goings p0_rowSize p0_ways p0_hasField p0_fieldSize p0_faultNow p0_hasTree p0_treeSize p0_weightCount p0_roundCount p0_setCount p0_by p0_closes p0_colour p0_come p0_field p0_former p0_has p0_needs p0_next p0_order p0_puts p0_sort p0_takes) H → va_D A (wld_X10_field cI cJ cZ h_p0 ad_p0 p0_places p0_steps p0_pastFirst p0_past p0_goings p0_rowSize p0_ways p0_hasField p0_fieldSize p0_faultNow p0_hasTree p0_treeSize p0_weightCount p0_roundCount p0_setCount p0_by p0_closes p0_colour p0_come p0_field p0_former p0_has p0_needs p0_next p0_order p0_puts p0_sort p0_takes) → va_S A s.heap H locs → lv_has ls 3 [(0, .ref h_p0), (1, .int v1)] → W p l e ({ frames := 5, cells := 0, slots := 0, locals := 122 }) s m args below meth c H locs 0 0 (MQ below (q_X10_field dC dI cI cJ cZ h_p0 ad_p0 p0_places p0_steps p0_pastFirst p0_past p0_goings p0_rowSize p0_ways p0_hasField p0_fieldSize p0_faultNow p0_hasTree p0_treeSize p0_weightCount p0_roundCount p0_setCount p0_by p0_closes p0_colour z_p0_come p0_field p0_former p0_has p0_needs p0_next p0_order p0_puts p0_sort p0_takes post A) args s 0 0 A) (F0 m 52 ls [])) : ∀ (n : Nat) (v2 : Int32) (p0_come : Nat → Int32), w_X10_field_L26 v1 p0_fieldSize p0_hasField p0_places p0_steps p0_by p0_closes p0_colour p0_field p0_former p0_has p0_needs p0_next p0_order p0_puts p0_sort p0_takes post K n v2 p0_come → ∀ (H : Heap) (locs : List Loc) (ls : Array Slot), va_P (dC, dI) vwCl (wld_X10_field cI cJ cZ h_p0 ad_p0 p0_places p0_steps p0_pastFirst p0_past p0_goings p0_rowSize p0_ways p0_hasField p0_fieldSize p0_faultNow p0_hasTree p0_treeSize p0_weightCount p0_roundCount p0_setCount p0_by p0_closes p0_colour p0_come p0_field p0_former p0_has p0_needs p0_next p0_order p0_puts p0_sort p0_takes) H → va_D A (wld_X10_field cI cJ cZ h_p0 ad_p0 p0_places p0_steps p0_pastFirst p0_past p0_goings p0_rowSize p0_ways p0_hasField p0_fieldSize p0_faultNow p0_hasTree p0_treeSize p0_weightCount p0_roundCount p0_setCount p0_by p0_closes p0_colour p0_come p0_field p0_former p0_has p0_needs p0_next p0_order p0_puts p0_sort p0_takes) → va_S A s.heap H locs → lv_has ls 3 [(0, .ref h_p0), (1, .int v1), (2, .int v2)] → W p l e ({ frames := 5, cells := 0, slots := 0, locals := 122 }) s m args below meth c H locs 0 0 (MQ below (q_X10_field dC dI cI cJ cZ h_p0 ad_p0 p0_places p0_steps p0_pastFirst p0_past p0_goings p0_rowSize p0_ways p0_hasField p0_fieldSize p0_faultNow p0_hasTree p0_treeSize p0_weightCount p0_roundCount p0_setCount p0_by p0_closes p0_colour z_p0_come p0_field p0_former p0_has p0_needs p0_next p0_order p0_puts p0_sort p0_takes post A) args s 0 0 A) (F0 m 26 ls []) := by
  obtain ⟨hx, hb, hr, hml, hown, hts, hlocks, hK, hA, n1, n2⟩ := id E0
  have iX10 : ∀ w ∈ u_ws RX10 TX10 50, w ∈ wsX10_field := fun w h => List.mem_cons_of_mem _ (List.mem_append_right _ h)
  intro n
  induction n with
  | zero => intro v2 p0_come hw; exact hw.elim
  | succ n ih =>
    intro v2 p0_come hw H locs ls hP hD hS hl
    have hw : w_X10_field_L26b v1 p0_fieldSize p0_hasField p0_places p0_steps p0_by p0_closes p0_colour p0_field p0_former p0_has p0_needs p0_next p0_order p0_puts p0_sort p0_takes post K (w_X10_field_L26 v1 p0_fieldSize p0_hasField p0_places p0_steps p0_by p0_closes p0_colour p0_field p0_former p0_has p0_needs p0_next p0_order p0_puts p0_sort p0_takes post K n) v2 p0_come := hw
    unfold w_X10_field_L26b at hw
    refine lv_iload_n hx hb dX10_field_26 rfl (lv_at hl 2 rfl) ?_
    refine lv_aload_n hx hb dX10_field_27 rfl (lv_at hl 0 rfl) ?_
    refine va_get (D := (dC, dI)) (ci := 10) (v := .int p0_places) (C := RX10) (T := TX10) (N := 50) hx hb hts iX10 hown hK hP 0 rfl rfl 0 (by decide) (hts (.fieldLink RX10 127 "NetHouseModel" "places" "I") (by decide +kernel)) (fun _ h9 => h9) rfl dX10_field_28 ?_
    refine lv_icmp_ge (tgt := 52) hx hb dX10_field_31 (by decide) (fun c7 => ?_) (fun c8 => ?_)
    · have hw := hw.1 c7
      exact hk _ _ _ _ _ hw hP hD hS (lv_sub hl [0, 1] rfl)
    · have hw := hw.2 c8
      refine lv_aload_n hx hb dX10_field_34 rfl (lv_at hl 0 rfl) ?_
      refine va_get (D := (dC, dI)) (ci := 10) (v := .ref (ad_p0 31)) (C := RX10) (T := TX10) (N := 50) hx hb hts iX10 hown hK hP 0 rfl rfl 31 (by decide) (hts (.fieldLink RX10 78 "NetHouseModel" "come" "[I") (by decide +kernel)) (fun _ h9 => h9) rfl dX10_field_35 ?_
      refine lv_iload_n hx hb dX10_field_38 rfl (lv_at hl 2 rfl) ?_
      refine lv_aload_n hx hb dX10_field_39 rfl (lv_at hl 0 rfl) ?_
      refine va_get (D := (dC, dI)) (ci := 10) (v := .ref (ad_p0 10)) (C := RX10) (T := TX10) (N := 50) hx hb hts iX10 hown hK hP 0 rfl rfl 10 (by decide) (hts (.fieldLink RX10 34 "NetHouseModel" "has" "[I") (by decide +kernel)) (fun _ h9 => h9) rfl dX10_field_40 ?_
      refine lv_iload_n hx hb dX10_field_43 rfl (lv_at hl 2 rfl) ?_
      refine va_iald hx hb hK hP 7 0 rfl rfl hw.1 dX10_field_44 ?_
      have hw := hw.2
      refine va_iast hx hb hK hP hD hS 4 0 rfl rfl hw.1 dX10_field_45 (fun H locs hP hD hS => ?_)
      have hw := hw.2
      have hP : va_P (dC, dI) vwCl (wld_X10_field cI cJ cZ h_p0 ad_p0 p0_places p0_steps p0_pastFirst p0_past p0_goings p0_rowSize p0_ways p0_hasField p0_fieldSize p0_faultNow p0_hasTree p0_treeSize p0_weightCount p0_roundCount p0_setCount p0_by p0_closes p0_colour (upd p0_come v2.toNatClampNeg (p0_has v2.toNatClampNeg)) p0_field p0_former p0_has p0_needs p0_next p0_order p0_puts p0_sort p0_takes) H := hP
      have hD : va_D A (wld_X10_field cI cJ cZ h_p0 ad_p0 p0_places p0_steps p0_pastFirst p0_past p0_goings p0_rowSize p0_ways p0_hasField p0_fieldSize p0_faultNow p0_hasTree p0_treeSize p0_weightCount p0_roundCount p0_setCount p0_by p0_closes p0_colour (upd p0_come v2.toNatClampNeg (p0_has v2.toNatClampNeg)) p0_field p0_former p0_has p0_needs p0_next p0_order p0_puts p0_sort p0_takes) := hD
      obtain ⟨x9, ex9⟩ : ∃ y : Int32, y = v2 + (1 : Int32) := ⟨_, rfl⟩
      have hw := hw x9 ex9
      refine lv_iinc (v := x9) (lv' := [(2, .int x9), (0, .ref h_p0), (1, .int v1)]) hx hb dX10_field_46 hl (k := 2) rfl (by rw [ex9]; rfl) (by decide) rfl (fun ls hl => ?_)
      refine lv_goto (tgt := 26) hx hb dX10_field_49 (by decide) ?_
      exact ih _ _ hw _ _ _ hP hD hS (lv_sub hl [1, 2, 0] rfl)
set_option maxHeartbeats 4000000 in
set_option maxRecDepth 100000 in
theorem c_X10_field {l : Launch} {dC : Nat → ClassId} {dI : Nat → Nat → Nat} {sz : Nat} {cI cJ cZ : ClassId} {h_p0 : Nat} {ad_p0 : Nat → Nat} {p0_places : Int32} {p0_steps : Int32} {p0_pastFirst : Int32} {p0_past : Int32} {p0_goings : Int32} {p0_rowSize : Int32} {p0_ways : Int32} {p0_hasField : Int32} {p0_fieldSize : Int32} {p0_faultNow : Int32} {p0_hasTree : Int32} {p0_treeSize : Int32} {p0_weightCount : Int32} {p0_roundCount : Int32} {p0_setCount : Int32} {p0_by : Nat → Int32} {p0_closes : Nat → Int32} {p0_colour : Nat → Int32} {p0_come : Nat → Int32} {p0_field : Nat → Int32} {p0_former : Nat → Int32} {p0_has : Nat → Int32} {p0_needs : Nat → Int32} {p0_next : Nat → Int32} {p0_order : Nat → Int32} {p0_puts : Nat → Int32} {p0_sort : Nat → Int32} {p0_takes : Nat → Int32} {a1 : Int32} {post : Int32 → (Int32) → (Int32) → (Nat → Int32) → (Nat → Int32) → (Nat → Int32) → (Nat → Int32) → (Nat → Int32) → (Nat → Int32) → Prop} (hw : w_X10_field p0_fieldSize p0_hasField p0_places p0_steps p0_by p0_closes p0_colour p0_come p0_field p0_former p0_has p0_needs p0_next p0_order p0_puts p0_sort p0_takes a1 post) : Met l yX10_field wsX10_field ({ frames := 5, cells := 0, slots := 0, locals := 122 }) (va_Pc [.ref h_p0, .int a1] (xPre (dC, dI) cI cJ cZ (wld_X10_field cI cJ cZ h_p0 ad_p0 p0_places p0_steps p0_pastFirst p0_past p0_goings p0_rowSize p0_ways p0_hasField p0_fieldSize p0_faultNow p0_hasTree p0_treeSize p0_weightCount p0_roundCount p0_setCount p0_by p0_closes p0_colour p0_come p0_field p0_former p0_has p0_needs p0_next p0_order p0_puts p0_sort p0_takes) sz)) (q_X10_field dC dI cI cJ cZ h_p0 ad_p0 p0_places p0_steps p0_pastFirst p0_past p0_goings p0_rowSize p0_ways p0_hasField p0_fieldSize p0_faultNow p0_hasTree p0_treeSize p0_weightCount p0_roundCount p0_setCount p0_by p0_closes p0_colour p0_come p0_field p0_former p0_has p0_needs p0_next p0_order p0_puts p0_sort p0_takes post (va_A (wld_X10_field cI cJ cZ h_p0 ad_p0 p0_places p0_steps p0_pastFirst p0_past p0_goings p0_rowSize p0_ways p0_hasField p0_fieldSize p0_faultNow p0_hasTree p0_treeSize p0_weightCount p0_roundCount p0_setCount p0_by p0_closes p0_colour p0_come p0_field p0_former p0_has p0_needs p0_next p0_order p0_puts p0_sort p0_takes) sz)) 0 0 (va_A (wld_X10_field cI cJ cZ h_p0 ad_p0 p0_places p0_steps p0_pastFirst p0_past p0_goings p0_rowSize p0_ways p0_hasField p0_fieldSize p0_faultNow p0_hasTree p0_treeSize p0_weightCount p0_roundCount p0_setCount p0_by p0_closes p0_colour p0_come p0_field p0_former p0_has p0_needs p0_next p0_order p0_puts p0_sort p0_takes) sz) := by
  refine x_met (cc := cX10_field) (maxL := 3) (ret := (some .int)) (own := RX10) (Qc := fun A => (q_X10_field dC dI cI cJ cZ h_p0 ad_p0 p0_places p0_steps p0_pastFirst p0_past p0_goings p0_rowSize p0_ways p0_hasField p0_fieldSize p0_faultNow p0_hasTree p0_treeSize p0_weightCount p0_roundCount p0_setCount p0_by p0_closes p0_colour p0_come p0_field p0_former p0_has p0_needs p0_next p0_order p0_puts p0_sort p0_takes post A)) (by decide) rfl rfl (Nat.le_of_ble_eq_true rfl) ?_
  intro p e s m args below meth c A ls E0 hP hD hS hl
  obtain ⟨hx, hb, hr, hml, hown, hts, hlocks, hK, hA, n1, n2⟩ := id E0
  have iX10 : ∀ w ∈ u_ws RX10 TX10 50, w ∈ wsX10_field := fun w h => List.mem_cons_of_mem _ (List.mem_append_right _ h)
  have hS0 := hS
  have hl : lv_has ls 3 [(0, .ref h_p0), (1, .int a1)] := hl
  unfold w_X10_field at hw
  obtain ⟨H, hH⟩ : ∃ H, H = s.heap := ⟨_, rfl⟩
  have hS : va_S A s.heap H [] := by rw [hH]; exact hS
  have hP : va_P (dC, dI) vwCl (wld_X10_field cI cJ cZ h_p0 ad_p0 p0_places p0_steps p0_pastFirst p0_past p0_goings p0_rowSize p0_ways p0_hasField p0_fieldSize p0_faultNow p0_hasTree p0_treeSize p0_weightCount p0_roundCount p0_setCount p0_by p0_closes p0_colour p0_come p0_field p0_former p0_has p0_needs p0_next p0_order p0_puts p0_sort p0_takes) H := by rw [hH]; exact hP
  suffices hG : W p l e ({ frames := 5, cells := 0, slots := 0, locals := 122 }) s m args below meth c H [] 0 0 (MQ below (q_X10_field dC dI cI cJ cZ h_p0 ad_p0 p0_places p0_steps p0_pastFirst p0_past p0_goings p0_rowSize p0_ways p0_hasField p0_fieldSize p0_faultNow p0_hasTree p0_treeSize p0_weightCount p0_roundCount p0_setCount p0_by p0_closes p0_colour p0_come p0_field p0_former p0_has p0_needs p0_next p0_order p0_puts p0_sort p0_takes post A) args s 0 0 A) (F0 m 0 ls []) by rw [hH] at hG; exact hG
  clear hH
  refine lv_iload_n hx hb dX10_field_0 rfl (lv_at hl 1 rfl) ?_
  refine lv_iconst (v := 1) hx hb dX10_field_1 (by decide) ?_
  refine lv_sipush (v := 8000) hx hb dX10_field_2 (by decide) ?_
  obtain ⟨hPc, hDc⟩ := x_sub (wc := (wld_X10_isIn cI cJ cZ )) hP hD [] (n := 14) rfl rfl (by decide +kernel)
  refine x_calli (ws' := fun (u : Unit) => (wld_X10_field cI cJ cZ h_p0 ad_p0 p0_places p0_steps p0_pastFirst p0_past p0_goings p0_rowSize p0_ways p0_hasField p0_fieldSize p0_faultNow p0_hasTree p0_treeSize p0_weightCount p0_roundCount p0_setCount p0_by p0_closes p0_colour p0_come p0_field p0_former p0_has p0_needs p0_next p0_order p0_puts p0_sort p0_takes)) hP hD hS hA [] [0, 1, 2, 3, 4, 5, 6, 7, 8, 9, 10, 11, 12, 13] [0, 1, 2, 3, 4, 5, 6, 7, 8, 9, 10, 11, 12, 13] (n := 14) (k := 0) rfl (fun _ => rfl) rfl (by decide +kernel) (fun _ => rfl) (va_runS (As := [.int a1, .int (1 : Int32), .int (8000 : Int32)]) (rest := []) ⟨hx, hb, hml, hown, hts⟩ (c_X10_isIn (l := l) (dC := dC) (dI := dI) (cI := cI) (cJ := cJ) (cZ := cZ) (sz := H.size) hw) (va_cwS 3 hts gX10_field_X10_isIn rfl rfl rfl (by decide +kernel) ⟨Nat.le_of_ble_eq_true rfl, Nat.le_of_ble_eq_true rfl⟩) ⟨xPre_blind, xPre_at hK hPc hDc n1 n2⟩ rfl rfl hl.1 rfl (lv_room (Nat.le_of_ble_eq_true rfl)) dX10_field_5 ⟨Nat.zero_le _, Nat.zero_le _⟩) (fun r1 u H locs hw hP hD hS => ?_)
  try dsimp only at hw
  have hP : va_P (dC, dI) vwCl (wld_X10_field cI cJ cZ h_p0 ad_p0 p0_places p0_steps p0_pastFirst p0_past p0_goings p0_rowSize p0_ways p0_hasField p0_fieldSize p0_faultNow p0_hasTree p0_treeSize p0_weightCount p0_roundCount p0_setCount p0_by p0_closes p0_colour p0_come p0_field p0_former p0_has p0_needs p0_next p0_order p0_puts p0_sort p0_takes) H := hP
  have hD : va_D A (wld_X10_field cI cJ cZ h_p0 ad_p0 p0_places p0_steps p0_pastFirst p0_past p0_goings p0_rowSize p0_ways p0_hasField p0_fieldSize p0_faultNow p0_hasTree p0_treeSize p0_weightCount p0_roundCount p0_setCount p0_by p0_closes p0_colour p0_come p0_field p0_former p0_has p0_needs p0_next p0_order p0_puts p0_sort p0_takes) := hD
  refine lv_if_ne (tgt := 14) hx hb dX10_field_8 (by decide) (fun c2 => ?_) (fun c3 => ?_)
  · have hw := hw.1 c2
    refine lv_aload_n hx hb dX10_field_14 rfl (lv_at hl 0 rfl) ?_
    obtain ⟨hPc, hDc⟩ := x_sub (wc := (wld_X10_hasColour cI cJ cZ h_p0 ad_p0 p0_places p0_steps p0_pastFirst p0_past p0_goings p0_rowSize p0_ways p0_hasField p0_fieldSize p0_faultNow p0_hasTree p0_treeSize p0_weightCount p0_roundCount p0_setCount p0_colour)) hP hD [0, 3] (n := 14) rfl rfl (by decide +kernel)
    refine x_calli (ws' := fun (u : Unit) => (wld_X10_field cI cJ cZ h_p0 ad_p0 p0_places p0_steps p0_pastFirst p0_past p0_goings p0_rowSize p0_ways p0_hasField p0_fieldSize p0_faultNow p0_hasTree p0_treeSize p0_weightCount p0_roundCount p0_setCount p0_by p0_closes p0_colour p0_come p0_field p0_former p0_has p0_needs p0_next p0_order p0_puts p0_sort p0_takes)) hP hD hS hA [0, 3] [1, 2, 4, 5, 6, 7, 8, 9, 10, 11, 12, 13] [12, 0, 1, 13, 2, 3, 4, 5, 6, 7, 8, 9, 10, 11] (n := 14) (k := 2) rfl (fun _ => rfl) rfl (by decide +kernel) (fun _ => rfl) (va_runV (As := []) (rest := []) ⟨hx, hb, hml, hown, hts⟩ (c_X10_hasColour (l := l) (dC := dC) (dI := dI) (cI := cI) (cJ := cJ) (cZ := cZ) (sz := H.size) (h_p0 := h_p0) (ad_p0 := ad_p0) (p0_places := p0_places) (p0_steps := p0_steps) (p0_pastFirst := p0_pastFirst) (p0_past := p0_past) (p0_goings := p0_goings) (p0_rowSize := p0_rowSize) (p0_ways := p0_ways) (p0_hasField := p0_hasField) (p0_fieldSize := p0_fieldSize) (p0_faultNow := p0_faultNow) (p0_hasTree := p0_hasTree) (p0_treeSize := p0_treeSize) (p0_weightCount := p0_weightCount) (p0_roundCount := p0_roundCount) (p0_setCount := p0_setCount) (p0_colour := p0_colour) hw) (cwV 0 hts gX10_field_X10_hasColour rfl rfl rfl (by decide +kernel) ⟨Nat.le_of_ble_eq_true rfl, Nat.le_of_ble_eq_true rfl⟩) ⟨xPre_blind, va_recv hK hP (ci := 10) (q0 := 0) rfl rfl, xPre_at hK hPc hDc n1 n2⟩ rfl rfl hl.1 rfl (lv_room (Nat.le_of_ble_eq_true rfl)) dX10_field_15 ⟨Nat.zero_le _, Nat.zero_le _⟩) (fun r4 u H locs hw hP hD hS => ?_)
    try dsimp only at hw
    have hP : va_P (dC, dI) vwCl (wld_X10_field cI cJ cZ h_p0 ad_p0 p0_places p0_steps p0_pastFirst p0_past p0_goings p0_rowSize p0_ways p0_hasField p0_fieldSize p0_faultNow p0_hasTree p0_treeSize p0_weightCount p0_roundCount p0_setCount p0_by p0_closes p0_colour p0_come p0_field p0_former p0_has p0_needs p0_next p0_order p0_puts p0_sort p0_takes) H := hP
    have hD : va_D A (wld_X10_field cI cJ cZ h_p0 ad_p0 p0_places p0_steps p0_pastFirst p0_past p0_goings p0_rowSize p0_ways p0_hasField p0_fieldSize p0_faultNow p0_hasTree p0_treeSize p0_weightCount p0_roundCount p0_setCount p0_by p0_closes p0_colour p0_come p0_field p0_former p0_has p0_needs p0_next p0_order p0_puts p0_sort p0_takes) := hD
    refine lv_if_eq (tgt := 24) hx hb dX10_field_18 (by decide) (fun c5 => ?_) (fun c6 => ?_)
    · have hw := hw.1 c5
      refine lv_iconst (v := 0) hx hb dX10_field_24 (by decide) ?_
      refine lv_istore_n (lv' := [(2, .int (0 : Int32)), (0, .ref h_p0), (1, .int a1)]) hx hb dX10_field_25 rfl hl (by decide) rfl (fun ls hl => ?_)
      obtain ⟨n10, hw⟩ := hw
      refine c_X10_field_L26 (l := l) (z_p0_come := p0_come) E0 ?_ n10 _ _ hw _ _ _ hP hD hS (lv_sub hl [1, 2, 0] rfl)
      · intro v11 s12 H locs ls hw hP hD hS hl
        have hP : va_P (dC, dI) vwCl (wld_X10_field cI cJ cZ h_p0 ad_p0 p0_places p0_steps p0_pastFirst p0_past p0_goings p0_rowSize p0_ways p0_hasField p0_fieldSize p0_faultNow p0_hasTree p0_treeSize p0_weightCount p0_roundCount p0_setCount p0_by p0_closes p0_colour s12 p0_field p0_former p0_has p0_needs p0_next p0_order p0_puts p0_sort p0_takes) H := hP
        have hD : va_D A (wld_X10_field cI cJ cZ h_p0 ad_p0 p0_places p0_steps p0_pastFirst p0_past p0_goings p0_rowSize p0_ways p0_hasField p0_fieldSize p0_faultNow p0_hasTree p0_treeSize p0_weightCount p0_roundCount p0_setCount p0_by p0_closes p0_colour s12 p0_field p0_former p0_has p0_needs p0_next p0_order p0_puts p0_sort p0_takes) := hD
        refine lv_aload_n hx hb dX10_field_52 rfl (lv_at hl 0 rfl) ?_
        refine lv_iload_n hx hb dX10_field_53 rfl (lv_at hl 1 rfl) ?_
        obtain ⟨hPc, hDc⟩ := x_sub (wc := (wld_X10_makeField cI cJ cZ h_p0 ad_p0 p0_places p0_steps p0_pastFirst p0_past p0_goings p0_rowSize p0_ways p0_hasField p0_fieldSize p0_faultNow p0_hasTree p0_treeSize p0_weightCount p0_roundCount p0_setCount p0_by p0_closes s12 p0_field p0_former p0_needs p0_next p0_order p0_puts p0_sort p0_takes)) hP hD [0, 1, 2, 4, 5, 6, 8, 9, 10, 11, 12, 13] (n := 14) rfl rfl (by decide +kernel)
        refine x_calli (ws' := fun (u : (Int32) × (Int32) × (Nat → Int32) × (Nat → Int32) × (Nat → Int32) × (Nat → Int32) × (Nat → Int32) × (Nat → Int32)) => (wld_X10_field cI cJ cZ h_p0 ad_p0 p0_places p0_steps p0_pastFirst p0_past p0_goings p0_rowSize p0_ways (u.2.1) (u.1) p0_faultNow p0_hasTree p0_treeSize p0_weightCount p0_roundCount p0_setCount (u.2.2.1) p0_closes p0_colour (u.2.2.2.1) (u.2.2.2.2.1) (u.2.2.2.2.2.1) p0_has p0_needs (u.2.2.2.2.2.2.1) (u.2.2.2.2.2.2.2) p0_puts p0_sort p0_takes)) hP hD hS hA [0, 1, 2, 4, 5, 6, 8, 9, 10, 11, 12, 13] [3, 7] [2, 3, 4, 0, 5, 6, 7, 1, 8, 9, 10, 11, 12, 13] (n := 14) (k := 12) rfl (fun _ => rfl) rfl (by decide +kernel) (fun _ => rfl) (va_runV (As := [.int a1]) (rest := []) ⟨hx, hb, hml, hown, hts⟩ (c_X10_makeField (l := l) (dC := dC) (dI := dI) (cI := cI) (cJ := cJ) (cZ := cZ) (sz := H.size) (h_p0 := h_p0) (ad_p0 := ad_p0) (p0_places := p0_places) (p0_steps := p0_steps) (p0_pastFirst := p0_pastFirst) (p0_past := p0_past) (p0_goings := p0_goings) (p0_rowSize := p0_rowSize) (p0_ways := p0_ways) (p0_hasField := p0_hasField) (p0_fieldSize := p0_fieldSize) (p0_faultNow := p0_faultNow) (p0_hasTree := p0_hasTree) (p0_treeSize := p0_treeSize) (p0_weightCount := p0_weightCount) (p0_roundCount := p0_roundCount) (p0_setCount := p0_setCount) (p0_by := p0_by) (p0_closes := p0_closes) (p0_come := s12) (p0_field := p0_field) (p0_former := p0_former) (p0_needs := p0_needs) (p0_next := p0_next) (p0_order := p0_order) (p0_puts := p0_puts) (p0_sort := p0_sort) (p0_takes := p0_takes) hw) (cwV 1 hts gX10_field_X10_makeField rfl rfl rfl (by decide +kernel) ⟨Nat.le_of_ble_eq_true rfl, Nat.le_of_ble_eq_true rfl⟩) ⟨xPre_blind, va_recv hK hP (ci := 10) (q0 := 0) rfl rfl, xPre_at hK hPc hDc n1 n2⟩ rfl rfl hl.1 rfl (lv_room (Nat.le_of_ble_eq_true rfl)) dX10_field_54 ⟨Nat.zero_le _, Nat.zero_le _⟩) (fun r13 u H locs hw hP hD hS => ?_)
        obtain ⟨y14, y15, y16, y17, y18, y19, y20, y21⟩ := u
        try dsimp only at hw
        have hP : va_P (dC, dI) vwCl (wld_X10_field cI cJ cZ h_p0 ad_p0 p0_places p0_steps p0_pastFirst p0_past p0_goings p0_rowSize p0_ways y15 y14 p0_faultNow p0_hasTree p0_treeSize p0_weightCount p0_roundCount p0_setCount y16 p0_closes p0_colour y17 y18 y19 p0_has p0_needs y20 y21 p0_puts p0_sort p0_takes) H := hP
        have hD : va_D A (wld_X10_field cI cJ cZ h_p0 ad_p0 p0_places p0_steps p0_pastFirst p0_past p0_goings p0_rowSize p0_ways y15 y14 p0_faultNow p0_hasTree p0_treeSize p0_weightCount p0_roundCount p0_setCount y16 p0_closes p0_colour y17 y18 y19 p0_has p0_needs y20 y21 p0_puts p0_sort p0_takes) := hD
        exact x_iret (w1 := fun (u : (Int32) × (Int32) × (Nat → Int32) × (Nat → Int32) × (Nat → Int32) × (Nat → Int32) × (Nat → Int32) × (Nat → Int32)) => (wld_X10_field cI cJ cZ h_p0 ad_p0 p0_places p0_steps p0_pastFirst p0_past p0_goings p0_rowSize p0_ways (u.2.1) (u.1) p0_faultNow p0_hasTree p0_treeSize p0_weightCount p0_roundCount p0_setCount (u.2.2.1) p0_closes p0_colour (u.2.2.2.1) (u.2.2.2.2.1) (u.2.2.2.2.2.1) p0_has p0_needs (u.2.2.2.2.2.2.1) (u.2.2.2.2.2.2.2) p0_puts p0_sort p0_takes)) hx hb hr hlocks (y14, y15, y16, y17, y18, y19, y20, y21) hw hP hD hS dX10_field_57
    · have hw := hw.2 c6
      refine lv_ldc (v := -2000000002) hx hb hown (hts (.constant RX10 171 (-2000000002)) (by decide +kernel)) dX10_field_21 ?_
      exact x_iret (w1 := fun (u : (Int32) × (Int32) × (Nat → Int32) × (Nat → Int32) × (Nat → Int32) × (Nat → Int32) × (Nat → Int32) × (Nat → Int32)) => (wld_X10_field cI cJ cZ h_p0 ad_p0 p0_places p0_steps p0_pastFirst p0_past p0_goings p0_rowSize p0_ways (u.2.1) (u.1) p0_faultNow p0_hasTree p0_treeSize p0_weightCount p0_roundCount p0_setCount (u.2.2.1) p0_closes p0_colour (u.2.2.2.1) (u.2.2.2.2.1) (u.2.2.2.2.2.1) p0_has p0_needs (u.2.2.2.2.2.2.1) (u.2.2.2.2.2.2.2) p0_puts p0_sort p0_takes)) hx hb hr hlocks (p0_fieldSize, p0_hasField, p0_by, p0_come, p0_field, p0_former, p0_next, p0_order) hw hP hD hS dX10_field_23
  · have hw := hw.2 c3
    refine lv_ldc (v := -2000000001) hx hb hown (hts (.constant RX10 159 (-2000000001)) (by decide +kernel)) dX10_field_11 ?_
    exact x_iret (w1 := fun (u : (Int32) × (Int32) × (Nat → Int32) × (Nat → Int32) × (Nat → Int32) × (Nat → Int32) × (Nat → Int32) × (Nat → Int32)) => (wld_X10_field cI cJ cZ h_p0 ad_p0 p0_places p0_steps p0_pastFirst p0_past p0_goings p0_rowSize p0_ways (u.2.1) (u.1) p0_faultNow p0_hasTree p0_treeSize p0_weightCount p0_roundCount p0_setCount (u.2.2.1) p0_closes p0_colour (u.2.2.2.1) (u.2.2.2.2.1) (u.2.2.2.2.2.1) p0_has p0_needs (u.2.2.2.2.2.2.1) (u.2.2.2.2.2.2.2) p0_puts p0_sort p0_takes)) hx hb hr hlocks (p0_fieldSize, p0_hasField, p0_by, p0_come, p0_field, p0_former, p0_next, p0_order) hw hP hD hS dX10_field_13
abbrev wld_X10_askField (cI cJ cZ : ClassId) (h_p0 : Nat) (ad_p0 : Nat → Nat) (p0_places : Int32) (p0_steps : Int32) (p0_pastFirst : Int32) (p0_past : Int32) (p0_goings : Int32) (p0_rowSize : Int32) (p0_ways : Int32) (p0_hasField : Int32) (p0_fieldSize : Int32) (p0_faultNow : Int32) (p0_hasTree : Int32) (p0_treeSize : Int32) (p0_weightCount : Int32) (p0_roundCount : Int32) (p0_setCount : Int32) : va_W := [(h_p0, .inr (10, [.int p0_places, .int p0_steps, .ref (ad_p0 2), .ref (ad_p0 3), .ref (ad_p0 4), .ref (ad_p0 5), .ref (ad_p0 6), .ref (ad_p0 7), .ref (ad_p0 8), .ref (ad_p0 9), .ref (ad_p0 10), .ref (ad_p0 11), .ref (ad_p0 12), .ref (ad_p0 13), .ref (ad_p0 14), .int p0_pastFirst, .int p0_past, .int p0_goings, .int p0_rowSize, .ref (ad_p0 19), .ref (ad_p0 20), .int p0_ways, .ref (ad_p0 22), .ref (ad_p0 23), .int p0_hasField, .int p0_fieldSize, .ref (ad_p0 26), .ref (ad_p0 27), .ref (ad_p0 28), .ref (ad_p0 29), .ref (ad_p0 30), .ref (ad_p0 31), .ref (ad_p0 32), .int p0_faultNow, .int p0_hasTree, .int p0_treeSize, .ref (ad_p0 36), .ref (ad_p0 37), .ref (ad_p0 38), .ref (ad_p0 39), .ref (ad_p0 40), .ref (ad_p0 41), .ref (ad_p0 42), .int p0_weightCount, .ref (ad_p0 44), .int p0_roundCount, .ref (ad_p0 46), .int p0_setCount, .ref (ad_p0 48), .ref (ad_p0 49)]))]
abbrev q_X10_askField (dC : Nat → ClassId) (dI : Nat → Nat → Nat) (cI cJ cZ : ClassId) (h_p0 : Nat) (ad_p0 : Nat → Nat) (p0_places : Int32) (p0_steps : Int32) (p0_pastFirst : Int32) (p0_past : Int32) (p0_goings : Int32) (p0_rowSize : Int32) (p0_ways : Int32) (p0_hasField : Int32) (p0_fieldSize : Int32) (p0_faultNow : Int32) (p0_hasTree : Int32) (p0_treeSize : Int32) (p0_weightCount : Int32) (p0_roundCount : Int32) (p0_setCount : Int32) (post : Int32 → Prop) (A : Nat → Prop) : Array Value → State → Outcome → State → Prop := va_Qi (fun r (u : Unit) => post r ) (fun (u : Unit) t => xPost (dC, dI) A (wld_X10_askField cI cJ cZ h_p0 ad_p0 p0_places p0_steps p0_pastFirst p0_past p0_goings p0_rowSize p0_ways p0_hasField p0_fieldSize p0_faultNow p0_hasTree p0_treeSize p0_weightCount p0_roundCount p0_setCount) t) A
def w_X10_askField (p0_fieldSize : Int32) (p0_hasField : Int32) (a1 : Int32) (post : Int32 → Prop) : Prop :=
  (¬ p0_hasField = 0 →
    w_X10_isIn a1 (0 : Int32) (p0_fieldSize - (1 : Int32)) (fun r3 =>
    (r3 = 0 →
      (post (-2000000001 : Int32))) ∧
    (¬ r3 = 0 →
      (post (0 : Int32))))) ∧
  (p0_hasField = 0 →
    (post (-2000000002 : Int32)))
set_option maxHeartbeats 4000000 in
set_option maxRecDepth 100000 in
theorem c_X10_askField {l : Launch} {dC : Nat → ClassId} {dI : Nat → Nat → Nat} {sz : Nat} {cI cJ cZ : ClassId} {h_p0 : Nat} {ad_p0 : Nat → Nat} {p0_places : Int32} {p0_steps : Int32} {p0_pastFirst : Int32} {p0_past : Int32} {p0_goings : Int32} {p0_rowSize : Int32} {p0_ways : Int32} {p0_hasField : Int32} {p0_fieldSize : Int32} {p0_faultNow : Int32} {p0_hasTree : Int32} {p0_treeSize : Int32} {p0_weightCount : Int32} {p0_roundCount : Int32} {p0_setCount : Int32} {a1 : Int32} {post : Int32 → Prop} (hw : w_X10_askField p0_fieldSize p0_hasField a1 post) : Met l yX10_askField wsX10_askField ({ frames := 1, cells := 0, slots := 0, locals := 22 }) (va_Pc [.ref h_p0, .int a1] (xPre (dC, dI) cI cJ cZ (wld_X10_askField cI cJ cZ h_p0 ad_p0 p0_places p0_steps p0_pastFirst p0_past p0_goings p0_rowSize p0_ways p0_hasField p0_fieldSize p0_faultNow p0_hasTree p0_treeSize p0_weightCount p0_roundCount p0_setCount) sz)) (q_X10_askField dC dI cI cJ cZ h_p0 ad_p0 p0_places p0_steps p0_pastFirst p0_past p0_goings p0_rowSize p0_ways p0_hasField p0_fieldSize p0_faultNow p0_hasTree p0_treeSize p0_weightCount p0_roundCount p0_setCount post (va_A (wld_X10_askField cI cJ cZ h_p0 ad_p0 p0_places p0_steps p0_pastFirst p0_past p0_goings p0_rowSize p0_ways p0_hasField p0_fieldSize p0_faultNow p0_hasTree p0_treeSize p0_weightCount p0_roundCount p0_setCount) sz)) 0 0 (va_A (wld_X10_askField cI cJ cZ h_p0 ad_p0 p0_places p0_steps p0_pastFirst p0_past p0_goings p0_rowSize p0_ways p0_hasField p0_fieldSize p0_faultNow p0_hasTree p0_treeSize p0_weightCount p0_roundCount p0_setCount) sz) := by
  refine x_met (cc := cX10_askField) (maxL := 2) (ret := (some .int)) (own := RX10) (Qc := fun A => (q_X10_askField dC dI cI cJ cZ h_p0 ad_p0 p0_places p0_steps p0_pastFirst p0_past p0_goings p0_rowSize p0_ways p0_hasField p0_fieldSize p0_faultNow p0_hasTree p0_treeSize p0_weightCount p0_roundCount p0_setCount post A)) (by decide) rfl rfl (Nat.le_of_ble_eq_true rfl) ?_
  intro p e s m args below meth c A ls E0 hP hD hS hl
  obtain ⟨hx, hb, hr, hml, hown, hts, hlocks, hK, hA, n1, n2⟩ := id E0
  have iX10 : ∀ w ∈ u_ws RX10 TX10 50, w ∈ wsX10_askField := fun w h => List.mem_cons_of_mem _ (List.mem_append_right _ h)
  have hS0 := hS
  have hl : lv_has ls 2 [(0, .ref h_p0), (1, .int a1)] := hl
  unfold w_X10_askField at hw
  obtain ⟨H, hH⟩ : ∃ H, H = s.heap := ⟨_, rfl⟩
  have hS : va_S A s.heap H [] := by rw [hH]; exact hS
  have hP : va_P (dC, dI) vwCl (wld_X10_askField cI cJ cZ h_p0 ad_p0 p0_places p0_steps p0_pastFirst p0_past p0_goings p0_rowSize p0_ways p0_hasField p0_fieldSize p0_faultNow p0_hasTree p0_treeSize p0_weightCount p0_roundCount p0_setCount) H := by rw [hH]; exact hP
  suffices hG : W p l e ({ frames := 1, cells := 0, slots := 0, locals := 22 }) s m args below meth c H [] 0 0 (MQ below (q_X10_askField dC dI cI cJ cZ h_p0 ad_p0 p0_places p0_steps p0_pastFirst p0_past p0_goings p0_rowSize p0_ways p0_hasField p0_fieldSize p0_faultNow p0_hasTree p0_treeSize p0_weightCount p0_roundCount p0_setCount post A) args s 0 0 A) (F0 m 0 ls []) by rw [hH] at hG; exact hG
  clear hH
  refine lv_aload_n hx hb dX10_askField_0 rfl (lv_at hl 0 rfl) ?_
  refine va_get (D := (dC, dI)) (ci := 10) (v := .int p0_hasField) (C := RX10) (T := TX10) (N := 50) hx hb hts iX10 hown hK hP 0 rfl rfl 24 (by decide) (hts (.fieldLink RX10 133 "NetHouseModel" "hasField" "Z") (by decide +kernel)) (fun _ h9 => h9) rfl dX10_askField_1 ?_
  refine lv_if_ne (tgt := 12) hx hb dX10_askField_4 (by decide) (fun c1 => ?_) (fun c2 => ?_)
  · have hw := hw.1 c1
    refine lv_iload_n hx hb dX10_askField_12 rfl (lv_at hl 1 rfl) ?_
    refine lv_iconst (v := 0) hx hb dX10_askField_13 (by decide) ?_
    refine lv_aload_n hx hb dX10_askField_14 rfl (lv_at hl 0 rfl) ?_
    refine va_get (D := (dC, dI)) (ci := 10) (v := .int p0_fieldSize) (C := RX10) (T := TX10) (N := 50) hx hb hts iX10 hown hK hP 0 rfl rfl 25 (by decide) (hts (.fieldLink RX10 124 "NetHouseModel" "fieldSize" "I") (by decide +kernel)) (fun _ h9 => h9) rfl dX10_askField_15 ?_
    refine lv_iconst (v := 1) hx hb dX10_askField_18 (by decide) ?_
    refine lv_isub hx hb dX10_askField_19 ?_
    obtain ⟨hPc, hDc⟩ := x_sub (wc := (wld_X10_isIn cI cJ cZ )) hP hD [] (n := 1) rfl rfl (by decide +kernel)
    refine x_calli (ws' := fun (u : Unit) => (wld_X10_askField cI cJ cZ h_p0 ad_p0 p0_places p0_steps p0_pastFirst p0_past p0_goings p0_rowSize p0_ways p0_hasField p0_fieldSize p0_faultNow p0_hasTree p0_treeSize p0_weightCount p0_roundCount p0_setCount)) hP hD hS hA [] [0] [0] (n := 1) (k := 0) rfl (fun _ => rfl) rfl (by decide +kernel) (fun _ => rfl) (va_runS (As := [.int a1, .int (0 : Int32), .int (p0_fieldSize - (1 : Int32))]) (rest := []) ⟨hx, hb, hml, hown, hts⟩ (c_X10_isIn (l := l) (dC := dC) (dI := dI) (cI := cI) (cJ := cJ) (cZ := cZ) (sz := H.size) hw) (va_cwS 3 hts gX10_askField_X10_isIn rfl rfl rfl (by decide +kernel) ⟨Nat.le_of_ble_eq_true rfl, Nat.le_of_ble_eq_true rfl⟩) ⟨xPre_blind, xPre_at hK hPc hDc n1 n2⟩ rfl rfl hl.1 rfl (lv_room (Nat.le_of_ble_eq_true rfl)) dX10_askField_20 ⟨Nat.zero_le _, Nat.zero_le _⟩) (fun r3 u H locs hw hP hD hS => ?_)
    try dsimp only at hw
    have hP : va_P (dC, dI) vwCl (wld_X10_askField cI cJ cZ h_p0 ad_p0 p0_places p0_steps p0_pastFirst p0_past p0_goings p0_rowSize p0_ways p0_hasField p0_fieldSize p0_faultNow p0_hasTree p0_treeSize p0_weightCount p0_roundCount p0_setCount) H := hP
    have hD : va_D A (wld_X10_askField cI cJ cZ h_p0 ad_p0 p0_places p0_steps p0_pastFirst p0_past p0_goings p0_rowSize p0_ways p0_hasField p0_fieldSize p0_faultNow p0_hasTree p0_treeSize p0_weightCount p0_roundCount p0_setCount) := hD
    refine lv_if_eq (tgt := 30) hx hb dX10_askField_23 (by decide) (fun c4 => ?_) (fun c5 => ?_)
    · have hw := hw.1 c4
      refine lv_ldc (v := -2000000001) hx hb hown (hts (.constant RX10 159 (-2000000001)) (by decide +kernel)) dX10_askField_30 ?_
      exact x_iret (w1 := fun (u : Unit) => (wld_X10_askField cI cJ cZ h_p0 ad_p0 p0_places p0_steps p0_pastFirst p0_past p0_goings p0_rowSize p0_ways p0_hasField p0_fieldSize p0_faultNow p0_hasTree p0_treeSize p0_weightCount p0_roundCount p0_setCount)) hx hb hr hlocks () hw hP hD hS dX10_askField_32
    · have hw := hw.2 c5
      refine lv_iconst (v := 0) hx hb dX10_askField_26 (by decide) ?_
      refine lv_goto (tgt := 32) hx hb dX10_askField_27 (by decide) ?_
      exact x_iret (w1 := fun (u : Unit) => (wld_X10_askField cI cJ cZ h_p0 ad_p0 p0_places p0_steps p0_pastFirst p0_past p0_goings p0_rowSize p0_ways p0_hasField p0_fieldSize p0_faultNow p0_hasTree p0_treeSize p0_weightCount p0_roundCount p0_setCount)) hx hb hr hlocks () hw hP hD hS dX10_askField_32
  · have hw := hw.2 c2
    refine lv_ldc (v := -2000000002) hx hb hown (hts (.constant RX10 171 (-2000000002)) (by decide +kernel)) dX10_askField_7 ?_
    refine lv_goto (tgt := 32) hx hb dX10_askField_9 (by decide) ?_
    exact x_iret (w1 := fun (u : Unit) => (wld_X10_askField cI cJ cZ h_p0 ad_p0 p0_places p0_steps p0_pastFirst p0_past p0_goings p0_rowSize p0_ways p0_hasField p0_fieldSize p0_faultNow p0_hasTree p0_treeSize p0_weightCount p0_roundCount p0_setCount)) hx hb hr hlocks () hw hP hD hS dX10_askField_32
abbrev wld_X10_marking (cI cJ cZ : ClassId) (h_p0 : Nat) (ad_p0 : Nat → Nat) (p0_places : Int32) (p0_steps : Int32) (p0_pastFirst : Int32) (p0_past : Int32) (p0_goings : Int32) (p0_rowSize : Int32) (p0_ways : Int32) (p0_hasField : Int32) (p0_fieldSize : Int32) (p0_faultNow : Int32) (p0_hasTree : Int32) (p0_treeSize : Int32) (p0_weightCount : Int32) (p0_roundCount : Int32) (p0_setCount : Int32) (p0_field : Nat → Int32) : va_W := [(h_p0, .inr (10, [.int p0_places, .int p0_steps, .ref (ad_p0 2), .ref (ad_p0 3), .ref (ad_p0 4), .ref (ad_p0 5), .ref (ad_p0 6), .ref (ad_p0 7), .ref (ad_p0 8), .ref (ad_p0 9), .ref (ad_p0 10), .ref (ad_p0 11), .ref (ad_p0 12), .ref (ad_p0 13), .ref (ad_p0 14), .int p0_pastFirst, .int p0_past, .int p0_goings, .int p0_rowSize, .ref (ad_p0 19), .ref (ad_p0 20), .int p0_ways, .ref (ad_p0 22), .ref (ad_p0 23), .int p0_hasField, .int p0_fieldSize, .ref (ad_p0 26), .ref (ad_p0 27), .ref (ad_p0 28), .ref (ad_p0 29), .ref (ad_p0 30), .ref (ad_p0 31), .ref (ad_p0 32), .int p0_faultNow, .int p0_hasTree, .int p0_treeSize, .ref (ad_p0 36), .ref (ad_p0 37), .ref (ad_p0 38), .ref (ad_p0 39), .ref (ad_p0 40), .ref (ad_p0 41), .ref (ad_p0 42), .int p0_weightCount, .ref (ad_p0 44), .int p0_roundCount, .ref (ad_p0 46), .int p0_setCount, .ref (ad_p0 48), .ref (ad_p0 49)])), ((ad_p0 26), .inl (cI, 128000, .inl p0_field))]
abbrev q_X10_marking (dC : Nat → ClassId) (dI : Nat → Nat → Nat) (cI cJ cZ : ClassId) (h_p0 : Nat) (ad_p0 : Nat → Nat) (p0_places : Int32) (p0_steps : Int32) (p0_pastFirst : Int32) (p0_past : Int32) (p0_goings : Int32) (p0_rowSize : Int32) (p0_ways : Int32) (p0_hasField : Int32) (p0_fieldSize : Int32) (p0_faultNow : Int32) (p0_hasTree : Int32) (p0_treeSize : Int32) (p0_weightCount : Int32) (p0_roundCount : Int32) (p0_setCount : Int32) (p0_field : Nat → Int32) (post : Int32 → Prop) (A : Nat → Prop) : Array Value → State → Outcome → State → Prop := va_Qi (fun r (u : Unit) => post r ) (fun (u : Unit) t => xPost (dC, dI) A (wld_X10_marking cI cJ cZ h_p0 ad_p0 p0_places p0_steps p0_pastFirst p0_past p0_goings p0_rowSize p0_ways p0_hasField p0_fieldSize p0_faultNow p0_hasTree p0_treeSize p0_weightCount p0_roundCount p0_setCount p0_field) t) A
def w_X10_marking (p0_fieldSize : Int32) (p0_hasField : Int32) (p0_places : Int32) (p0_field : Nat → Int32) (a1 : Int32) (a2 : Int32) (post : Int32 → Prop) : Prop :=
  w_X10_isPlace p0_places a2 (fun r1 =>
  (¬ r1 = 0 →
    w_X10_askField p0_fieldSize p0_hasField a1 (fun r4 =>
    (0 ≤ r4 →
      vp_in (((16 : Int32) * a1) + a2) 128000 ∧
      (post (p0_field (((16 : Int32) * a1) + a2).toNatClampNeg))) ∧
    (¬ 0 ≤ r4 →
      (post r4)))) ∧
  (r1 = 0 →
    (post (-2000000001 : Int32))))
set_option maxHeartbeats 4000000 in
set_option maxRecDepth 100000 in
theorem c_X10_marking {l : Launch} {dC : Nat → ClassId} {dI : Nat → Nat → Nat} {sz : Nat} {cI cJ cZ : ClassId} {h_p0 : Nat} {ad_p0 : Nat → Nat} {p0_places : Int32} {p0_steps : Int32} {p0_pastFirst : Int32} {p0_past : Int32} {p0_goings : Int32} {p0_rowSize : Int32} {p0_ways : Int32} {p0_hasField : Int32} {p0_fieldSize : Int32} {p0_faultNow : Int32} {p0_hasTree : Int32} {p0_treeSize : Int32} {p0_weightCount : Int32} {p0_roundCount : Int32} {p0_setCount : Int32} {p0_field : Nat → Int32} {a1 : Int32} {a2 : Int32} {post : Int32 → Prop} (hw : w_X10_marking p0_fieldSize p0_hasField p0_places p0_field a1 a2 post) : Met l yX10_marking wsX10_marking ({ frames := 2, cells := 0, slots := 0, locals := 43 }) (va_Pc [.ref h_p0, .int a1, .int a2] (xPre (dC, dI) cI cJ cZ (wld_X10_marking cI cJ cZ h_p0 ad_p0 p0_places p0_steps p0_pastFirst p0_past p0_goings p0_rowSize p0_ways p0_hasField p0_fieldSize p0_faultNow p0_hasTree p0_treeSize p0_weightCount p0_roundCount p0_setCount p0_field) sz)) (q_X10_marking dC dI cI cJ cZ h_p0 ad_p0 p0_places p0_steps p0_pastFirst p0_past p0_goings p0_rowSize p0_ways p0_hasField p0_fieldSize p0_faultNow p0_hasTree p0_treeSize p0_weightCount p0_roundCount p0_setCount p0_field post (va_A (wld_X10_marking cI cJ cZ h_p0 ad_p0 p0_places p0_steps p0_pastFirst p0_past p0_goings p0_rowSize p0_ways p0_hasField p0_fieldSize p0_faultNow p0_hasTree p0_treeSize p0_weightCount p0_roundCount p0_setCount p0_field) sz)) 0 0 (va_A (wld_X10_marking cI cJ cZ h_p0 ad_p0 p0_places p0_steps p0_pastFirst p0_past p0_goings p0_rowSize p0_ways p0_hasField p0_fieldSize p0_faultNow p0_hasTree p0_treeSize p0_weightCount p0_roundCount p0_setCount p0_field) sz) := by
  refine x_met (cc := cX10_marking) (maxL := 4) (ret := (some .int)) (own := RX10) (Qc := fun A => (q_X10_marking dC dI cI cJ cZ h_p0 ad_p0 p0_places p0_steps p0_pastFirst p0_past p0_goings p0_rowSize p0_ways p0_hasField p0_fieldSize p0_faultNow p0_hasTree p0_treeSize p0_weightCount p0_roundCount p0_setCount p0_field post A)) (by decide) rfl rfl (Nat.le_of_ble_eq_true rfl) ?_
  intro p e s m args below meth c A ls E0 hP hD hS hl
  obtain ⟨hx, hb, hr, hml, hown, hts, hlocks, hK, hA, n1, n2⟩ := id E0
  have iX10 : ∀ w ∈ u_ws RX10 TX10 50, w ∈ wsX10_marking := fun w h => List.mem_cons_of_mem _ (List.mem_append_right _ h)
  have hS0 := hS
  have hl : lv_has ls 4 [(0, .ref h_p0), (1, .int a1), (2, .int a2)] := hl
  unfold w_X10_marking at hw
  obtain ⟨H, hH⟩ : ∃ H, H = s.heap := ⟨_, rfl⟩
  have hS : va_S A s.heap H [] := by rw [hH]; exact hS
  have hP : va_P (dC, dI) vwCl (wld_X10_marking cI cJ cZ h_p0 ad_p0 p0_places p0_steps p0_pastFirst p0_past p0_goings p0_rowSize p0_ways p0_hasField p0_fieldSize p0_faultNow p0_hasTree p0_treeSize p0_weightCount p0_roundCount p0_setCount p0_field) H := by rw [hH]; exact hP
  suffices hG : W p l e ({ frames := 2, cells := 0, slots := 0, locals := 43 }) s m args below meth c H [] 0 0 (MQ below (q_X10_marking dC dI cI cJ cZ h_p0 ad_p0 p0_places p0_steps p0_pastFirst p0_past p0_goings p0_rowSize p0_ways p0_hasField p0_fieldSize p0_faultNow p0_hasTree p0_treeSize p0_weightCount p0_roundCount p0_setCount p0_field post A) args s 0 0 A) (F0 m 0 ls []) by rw [hH] at hG; exact hG
  clear hH
  refine lv_aload_n hx hb dX10_marking_0 rfl (lv_at hl 0 rfl) ?_
  refine lv_iload_n hx hb dX10_marking_1 rfl (lv_at hl 2 rfl) ?_
  obtain ⟨hPc, hDc⟩ := x_sub (wc := (wld_X10_isPlace cI cJ cZ h_p0 ad_p0 p0_places p0_steps p0_pastFirst p0_past p0_goings p0_rowSize p0_ways p0_hasField p0_fieldSize p0_faultNow p0_hasTree p0_treeSize p0_weightCount p0_roundCount p0_setCount)) hP hD [0] (n := 2) rfl rfl (by decide +kernel)
  refine x_calli (ws' := fun (u : Unit) => (wld_X10_marking cI cJ cZ h_p0 ad_p0 p0_places p0_steps p0_pastFirst p0_past p0_goings p0_rowSize p0_ways p0_hasField p0_fieldSize p0_faultNow p0_hasTree p0_treeSize p0_weightCount p0_roundCount p0_setCount p0_field)) hP hD hS hA [0] [1] [1, 0] (n := 2) (k := 1) rfl (fun _ => rfl) rfl (by decide +kernel) (fun _ => rfl) (va_runV (As := [.int a2]) (rest := []) ⟨hx, hb, hml, hown, hts⟩ (c_X10_isPlace (l := l) (dC := dC) (dI := dI) (cI := cI) (cJ := cJ) (cZ := cZ) (sz := H.size) (h_p0 := h_p0) (ad_p0 := ad_p0) (p0_places := p0_places) (p0_steps := p0_steps) (p0_pastFirst := p0_pastFirst) (p0_past := p0_past) (p0_goings := p0_goings) (p0_rowSize := p0_rowSize) (p0_ways := p0_ways) (p0_hasField := p0_hasField) (p0_fieldSize := p0_fieldSize) (p0_faultNow := p0_faultNow) (p0_hasTree := p0_hasTree) (p0_treeSize := p0_treeSize) (p0_weightCount := p0_weightCount) (p0_roundCount := p0_roundCount) (p0_setCount := p0_setCount) hw) (cwV 1 hts gX10_marking_X10_isPlace rfl rfl rfl (by decide +kernel) ⟨Nat.le_of_ble_eq_true rfl, Nat.le_of_ble_eq_true rfl⟩) ⟨xPre_blind, va_recv hK hP (ci := 10) (q0 := 0) rfl rfl, xPre_at hK hPc hDc n1 n2⟩ rfl rfl hl.1 rfl (lv_room (Nat.le_of_ble_eq_true rfl)) dX10_marking_2 ⟨Nat.zero_le _, Nat.zero_le _⟩) (fun r1 u H locs hw hP hD hS => ?_)
  try dsimp only at hw
  have hP : va_P (dC, dI) vwCl (wld_X10_marking cI cJ cZ h_p0 ad_p0 p0_places p0_steps p0_pastFirst p0_past p0_goings p0_rowSize p0_ways p0_hasField p0_fieldSize p0_faultNow p0_hasTree p0_treeSize p0_weightCount p0_roundCount p0_setCount p0_field) H := hP
  have hD : va_D A (wld_X10_marking cI cJ cZ h_p0 ad_p0 p0_places p0_steps p0_pastFirst p0_past p0_goings p0_rowSize p0_ways p0_hasField p0_fieldSize p0_faultNow p0_hasTree p0_treeSize p0_weightCount p0_roundCount p0_setCount p0_field) := hD
  refine lv_if_ne (tgt := 11) hx hb dX10_marking_5 (by decide) (fun c2 => ?_) (fun c3 => ?_)
  · have hw := hw.1 c2
    refine lv_aload_n hx hb dX10_marking_11 rfl (lv_at hl 0 rfl) ?_
    refine lv_iload_n hx hb dX10_marking_12 rfl (lv_at hl 1 rfl) ?_
    obtain ⟨hPc, hDc⟩ := x_sub (wc := (wld_X10_askField cI cJ cZ h_p0 ad_p0 p0_places p0_steps p0_pastFirst p0_past p0_goings p0_rowSize p0_ways p0_hasField p0_fieldSize p0_faultNow p0_hasTree p0_treeSize p0_weightCount p0_roundCount p0_setCount)) hP hD [0] (n := 2) rfl rfl (by decide +kernel)
    refine x_calli (ws' := fun (u : Unit) => (wld_X10_marking cI cJ cZ h_p0 ad_p0 p0_places p0_steps p0_pastFirst p0_past p0_goings p0_rowSize p0_ways p0_hasField p0_fieldSize p0_faultNow p0_hasTree p0_treeSize p0_weightCount p0_roundCount p0_setCount p0_field)) hP hD hS hA [0] [1] [1, 0] (n := 2) (k := 1) rfl (fun _ => rfl) rfl (by decide +kernel) (fun _ => rfl) (va_runV (As := [.int a1]) (rest := []) ⟨hx, hb, hml, hown, hts⟩ (c_X10_askField (l := l) (dC := dC) (dI := dI) (cI := cI) (cJ := cJ) (cZ := cZ) (sz := H.size) (h_p0 := h_p0) (ad_p0 := ad_p0) (p0_places := p0_places) (p0_steps := p0_steps) (p0_pastFirst := p0_pastFirst) (p0_past := p0_past) (p0_goings := p0_goings) (p0_rowSize := p0_rowSize) (p0_ways := p0_ways) (p0_hasField := p0_hasField) (p0_fieldSize := p0_fieldSize) (p0_faultNow := p0_faultNow) (p0_hasTree := p0_hasTree) (p0_treeSize := p0_treeSize) (p0_weightCount := p0_weightCount) (p0_roundCount := p0_roundCount) (p0_setCount := p0_setCount) hw) (cwV 1 hts gX10_marking_X10_askField rfl rfl rfl (by decide +kernel) ⟨Nat.le_of_ble_eq_true rfl, Nat.le_of_ble_eq_true rfl⟩) ⟨xPre_blind, va_recv hK hP (ci := 10) (q0 := 0) rfl rfl, xPre_at hK hPc hDc n1 n2⟩ rfl rfl hl.1 rfl (lv_room (Nat.le_of_ble_eq_true rfl)) dX10_marking_13 ⟨Nat.zero_le _, Nat.zero_le _⟩) (fun r4 u H locs hw hP hD hS => ?_)
    try dsimp only at hw
    have hP : va_P (dC, dI) vwCl (wld_X10_marking cI cJ cZ h_p0 ad_p0 p0_places p0_steps p0_pastFirst p0_past p0_goings p0_rowSize p0_ways p0_hasField p0_fieldSize p0_faultNow p0_hasTree p0_treeSize p0_weightCount p0_roundCount p0_setCount p0_field) H := hP
    have hD : va_D A (wld_X10_marking cI cJ cZ h_p0 ad_p0 p0_places p0_steps p0_pastFirst p0_past p0_goings p0_rowSize p0_ways p0_hasField p0_fieldSize p0_faultNow p0_hasTree p0_treeSize p0_weightCount p0_roundCount p0_setCount p0_field) := hD
    refine lv_istore_n (lv' := [(3, .int r4), (0, .ref h_p0), (1, .int a1), (2, .int a2)]) hx hb dX10_marking_16 rfl hl (by decide) rfl (fun ls hl => ?_)
    refine lv_iload_n hx hb dX10_marking_17 rfl (lv_at hl 0 rfl) ?_
    refine lv_if_ge (tgt := 25) hx hb dX10_marking_18 (by decide) (fun c5 => ?_) (fun c6 => ?_)
    · have hw := hw.1 c5
      refine lv_aload_n hx hb dX10_marking_25 rfl (lv_at hl 1 rfl) ?_
      refine va_get (D := (dC, dI)) (ci := 10) (v := .ref (ad_p0 26)) (C := RX10) (T := TX10) (N := 50) hx hb hts iX10 hown hK hP 0 rfl rfl 26 (by decide) (hts (.fieldLink RX10 63 "NetHouseModel" "field" "[I") (by decide +kernel)) (fun _ h9 => h9) rfl dX10_marking_26 ?_
      refine lv_bipush (v := 16) hx hb dX10_marking_29 (by decide) ?_
      refine lv_iload_n hx hb dX10_marking_31 rfl (lv_at hl 2 rfl) ?_
      refine lv_imul hx hb dX10_marking_32 ?_
      refine lv_iload_n hx hb dX10_marking_33 rfl (lv_at hl 3 rfl) ?_
      refine lv_iadd hx hb dX10_marking_34 ?_
      refine va_iald hx hb hK hP 1 0 rfl rfl hw.1 dX10_marking_35 ?_
      have hw := hw.2
      exact x_iret (w1 := fun (u : Unit) => (wld_X10_marking cI cJ cZ h_p0 ad_p0 p0_places p0_steps p0_pastFirst p0_past p0_goings p0_rowSize p0_ways p0_hasField p0_fieldSize p0_faultNow p0_hasTree p0_treeSize p0_weightCount p0_roundCount p0_setCount p0_field)) hx hb hr hlocks () hw hP hD hS dX10_marking_36
    · have hw := hw.2 c6
      refine lv_iload_n hx hb dX10_marking_21 rfl (lv_at hl 0 rfl) ?_
      refine lv_goto (tgt := 36) hx hb dX10_marking_22 (by decide) ?_
      exact x_iret (w1 := fun (u : Unit) => (wld_X10_marking cI cJ cZ h_p0 ad_p0 p0_places p0_steps p0_pastFirst p0_past p0_goings p0_rowSize p0_ways p0_hasField p0_fieldSize p0_faultNow p0_hasTree p0_treeSize p0_weightCount p0_roundCount p0_setCount p0_field)) hx hb hr hlocks () hw hP hD hS dX10_marking_36
  · have hw := hw.2 c3
    refine lv_ldc (v := -2000000001) hx hb hown (hts (.constant RX10 159 (-2000000001)) (by decide +kernel)) dX10_marking_8 ?_
    exact x_iret (w1 := fun (u : Unit) => (wld_X10_marking cI cJ cZ h_p0 ad_p0 p0_places p0_steps p0_pastFirst p0_past p0_goings p0_rowSize p0_ways p0_hasField p0_fieldSize p0_faultNow p0_hasTree p0_treeSize p0_weightCount p0_roundCount p0_setCount p0_field)) hx hb hr hlocks () hw hP hD hS dX10_marking_10
abbrev wld_X10_next (cI cJ cZ : ClassId) (h_p0 : Nat) (ad_p0 : Nat → Nat) (p0_places : Int32) (p0_steps : Int32) (p0_pastFirst : Int32) (p0_past : Int32) (p0_goings : Int32) (p0_rowSize : Int32) (p0_ways : Int32) (p0_hasField : Int32) (p0_fieldSize : Int32) (p0_faultNow : Int32) (p0_hasTree : Int32) (p0_treeSize : Int32) (p0_weightCount : Int32) (p0_roundCount : Int32) (p0_setCount : Int32) (p0_next : Nat → Int32) : va_W := [(h_p0, .inr (10, [.int p0_places, .int p0_steps, .ref (ad_p0 2), .ref (ad_p0 3), .ref (ad_p0 4), .ref (ad_p0 5), .ref (ad_p0 6), .ref (ad_p0 7), .ref (ad_p0 8), .ref (ad_p0 9), .ref (ad_p0 10), .ref (ad_p0 11), .ref (ad_p0 12), .ref (ad_p0 13), .ref (ad_p0 14), .int p0_pastFirst, .int p0_past, .int p0_goings, .int p0_rowSize, .ref (ad_p0 19), .ref (ad_p0 20), .int p0_ways, .ref (ad_p0 22), .ref (ad_p0 23), .int p0_hasField, .int p0_fieldSize, .ref (ad_p0 26), .ref (ad_p0 27), .ref (ad_p0 28), .ref (ad_p0 29), .ref (ad_p0 30), .ref (ad_p0 31), .ref (ad_p0 32), .int p0_faultNow, .int p0_hasTree, .int p0_treeSize, .ref (ad_p0 36), .ref (ad_p0 37), .ref (ad_p0 38), .ref (ad_p0 39), .ref (ad_p0 40), .ref (ad_p0 41), .ref (ad_p0 42), .int p0_weightCount, .ref (ad_p0 44), .int p0_roundCount, .ref (ad_p0 46), .int p0_setCount, .ref (ad_p0 48), .ref (ad_p0 49)])), ((ad_p0 30), .inl (cI, 128000, .inl p0_next))]
abbrev q_X10_next (dC : Nat → ClassId) (dI : Nat → Nat → Nat) (cI cJ cZ : ClassId) (h_p0 : Nat) (ad_p0 : Nat → Nat) (p0_places : Int32) (p0_steps : Int32) (p0_pastFirst : Int32) (p0_past : Int32) (p0_goings : Int32) (p0_rowSize : Int32) (p0_ways : Int32) (p0_hasField : Int32) (p0_fieldSize : Int32) (p0_faultNow : Int32) (p0_hasTree : Int32) (p0_treeSize : Int32) (p0_weightCount : Int32) (p0_roundCount : Int32) (p0_setCount : Int32) (p0_next : Nat → Int32) (post : Int32 → Prop) (A : Nat → Prop) : Array Value → State → Outcome → State → Prop := va_Qi (fun r (u : Unit) => post r ) (fun (u : Unit) t => xPost (dC, dI) A (wld_X10_next cI cJ cZ h_p0 ad_p0 p0_places p0_steps p0_pastFirst p0_past p0_goings p0_rowSize p0_ways p0_hasField p0_fieldSize p0_faultNow p0_hasTree p0_treeSize p0_weightCount p0_roundCount p0_setCount p0_next) t) A
def w_X10_next (p0_fieldSize : Int32) (p0_hasField : Int32) (p0_steps : Int32) (p0_next : Nat → Int32) (a1 : Int32) (a2 : Int32) (post : Int32 → Prop) : Prop :=
  w_X10_isStep p0_steps a2 (fun r1 =>
  (¬ r1 = 0 →
    w_X10_askField p0_fieldSize p0_hasField a1 (fun r4 =>
    (0 ≤ r4 →
      vp_in (((16 : Int32) * a1) + a2) 128000 ∧
      (post (p0_next (((16 : Int32) * a1) + a2).toNatClampNeg))) ∧
    (¬ 0 ≤ r4 →
      (post r4)))) ∧
  (r1 = 0 →
    (post (-2000000001 : Int32))))
set_option maxHeartbeats 4000000 in
set_option maxRecDepth 100000 in
theorem c_X10_next {l : Launch} {dC : Nat → ClassId} {dI : Nat → Nat → Nat} {sz : Nat} {cI cJ cZ : ClassId} {h_p0 : Nat} {ad_p0 : Nat → Nat} {p0_places : Int32} {p0_steps : Int32} {p0_pastFirst : Int32} {p0_past : Int32} {p0_goings : Int32} {p0_rowSize : Int32} {p0_ways : Int32} {p0_hasField : Int32} {p0_fieldSize : Int32} {p0_faultNow : Int32} {p0_hasTree : Int32} {p0_treeSize : Int32} {p0_weightCount : Int32} {p0_roundCount : Int32} {p0_setCount : Int32} {p0_next : Nat → Int32} {a1 : Int32} {a2 : Int32} {post : Int32 → Prop} (hw : w_X10_next p0_fieldSize p0_hasField p0_steps p0_next a1 a2 post) : Met l yX10_next wsX10_next ({ frames := 2, cells := 0, slots := 0, locals := 43 }) (va_Pc [.ref h_p0, .int a1, .int a2] (xPre (dC, dI) cI cJ cZ (wld_X10_next cI cJ cZ h_p0 ad_p0 p0_places p0_steps p0_pastFirst p0_past p0_goings p0_rowSize p0_ways p0_hasField p0_fieldSize p0_faultNow p0_hasTree p0_treeSize p0_weightCount p0_roundCount p0_setCount p0_next) sz)) (q_X10_next dC dI cI cJ cZ h_p0 ad_p0 p0_places p0_steps p0_pastFirst p0_past p0_goings p0_rowSize p0_ways p0_hasField p0_fieldSize p0_faultNow p0_hasTree p0_treeSize p0_weightCount p0_roundCount p0_setCount p0_next post (va_A (wld_X10_next cI cJ cZ h_p0 ad_p0 p0_places p0_steps p0_pastFirst p0_past p0_goings p0_rowSize p0_ways p0_hasField p0_fieldSize p0_faultNow p0_hasTree p0_treeSize p0_weightCount p0_roundCount p0_setCount p0_next) sz)) 0 0 (va_A (wld_X10_next cI cJ cZ h_p0 ad_p0 p0_places p0_steps p0_pastFirst p0_past p0_goings p0_rowSize p0_ways p0_hasField p0_fieldSize p0_faultNow p0_hasTree p0_treeSize p0_weightCount p0_roundCount p0_setCount p0_next) sz) := by
  refine x_met (cc := cX10_next) (maxL := 4) (ret := (some .int)) (own := RX10) (Qc := fun A => (q_X10_next dC dI cI cJ cZ h_p0 ad_p0 p0_places p0_steps p0_pastFirst p0_past p0_goings p0_rowSize p0_ways p0_hasField p0_fieldSize p0_faultNow p0_hasTree p0_treeSize p0_weightCount p0_roundCount p0_setCount p0_next post A)) (by decide) rfl rfl (Nat.le_of_ble_eq_true rfl) ?_
  intro p e s m args below meth c A ls E0 hP hD hS hl
  obtain ⟨hx, hb, hr, hml, hown, hts, hlocks, hK, hA, n1, n2⟩ := id E0
  have iX10 : ∀ w ∈ u_ws RX10 TX10 50, w ∈ wsX10_next := fun w h => List.mem_cons_of_mem _ (List.mem_append_right _ h)
  have hS0 := hS
  have hl : lv_has ls 4 [(0, .ref h_p0), (1, .int a1), (2, .int a2)] := hl
  unfold w_X10_next at hw
  obtain ⟨H, hH⟩ : ∃ H, H = s.heap := ⟨_, rfl⟩
  have hS : va_S A s.heap H [] := by rw [hH]; exact hS
  have hP : va_P (dC, dI) vwCl (wld_X10_next cI cJ cZ h_p0 ad_p0 p0_places p0_steps p0_pastFirst p0_past p0_goings p0_rowSize p0_ways p0_hasField p0_fieldSize p0_faultNow p0_hasTree p0_treeSize p0_weightCount p0_roundCount p0_setCount p0_next) H := by rw [hH]; exact hP
  suffices hG : W p l e ({ frames := 2, cells := 0, slots := 0, locals := 43 }) s m args below meth c H [] 0 0 (MQ below (q_X10_next dC dI cI cJ cZ h_p0 ad_p0 p0_places p0_steps p0_pastFirst p0_past p0_goings p0_rowSize p0_ways p0_hasField p0_fieldSize p0_faultNow p0_hasTree p0_treeSize p0_weightCount p0_roundCount p0_setCount p0_next post A) args s 0 0 A) (F0 m 0 ls []) by rw [hH] at hG; exact hG
  clear hH
  refine lv_aload_n hx hb dX10_next_0 rfl (lv_at hl 0 rfl) ?_
  refine lv_iload_n hx hb dX10_next_1 rfl (lv_at hl 2 rfl) ?_
  obtain ⟨hPc, hDc⟩ := x_sub (wc := (wld_X10_isStep cI cJ cZ h_p0 ad_p0 p0_places p0_steps p0_pastFirst p0_past p0_goings p0_rowSize p0_ways p0_hasField p0_fieldSize p0_faultNow p0_hasTree p0_treeSize p0_weightCount p0_roundCount p0_setCount)) hP hD [0] (n := 2) rfl rfl (by decide +kernel)
  refine x_calli (ws' := fun (u : Unit) => (wld_X10_next cI cJ cZ h_p0 ad_p0 p0_places p0_steps p0_pastFirst p0_past p0_goings p0_rowSize p0_ways p0_hasField p0_fieldSize p0_faultNow p0_hasTree p0_treeSize p0_weightCount p0_roundCount p0_setCount p0_next)) hP hD hS hA [0] [1] [1, 0] (n := 2) (k := 1) rfl (fun _ => rfl) rfl (by decide +kernel) (fun _ => rfl) (va_runV (As := [.int a2]) (rest := []) ⟨hx, hb, hml, hown, hts⟩ (c_X10_isStep (l := l) (dC := dC) (dI := dI) (cI := cI) (cJ := cJ) (cZ := cZ) (sz := H.size) (h_p0 := h_p0) (ad_p0 := ad_p0) (p0_places := p0_places) (p0_steps := p0_steps) (p0_pastFirst := p0_pastFirst) (p0_past := p0_past) (p0_goings := p0_goings) (p0_rowSize := p0_rowSize) (p0_ways := p0_ways) (p0_hasField := p0_hasField) (p0_fieldSize := p0_fieldSize) (p0_faultNow := p0_faultNow) (p0_hasTree := p0_hasTree) (p0_treeSize := p0_treeSize) (p0_weightCount := p0_weightCount) (p0_roundCount := p0_roundCount) (p0_setCount := p0_setCount) hw) (cwV 1 hts gX10_next_X10_isStep rfl rfl rfl (by decide +kernel) ⟨Nat.le_of_ble_eq_true rfl, Nat.le_of_ble_eq_true rfl⟩) ⟨xPre_blind, va_recv hK hP (ci := 10) (q0 := 0) rfl rfl, xPre_at hK hPc hDc n1 n2⟩ rfl rfl hl.1 rfl (lv_room (Nat.le_of_ble_eq_true rfl)) dX10_next_2 ⟨Nat.zero_le _, Nat.zero_le _⟩) (fun r1 u H locs hw hP hD hS => ?_)
  try dsimp only at hw
  have hP : va_P (dC, dI) vwCl (wld_X10_next cI cJ cZ h_p0 ad_p0 p0_places p0_steps p0_pastFirst p0_past p0_goings p0_rowSize p0_ways p0_hasField p0_fieldSize p0_faultNow p0_hasTree p0_treeSize p0_weightCount p0_roundCount p0_setCount p0_next) H := hP
  have hD : va_D A (wld_X10_next cI cJ cZ h_p0 ad_p0 p0_places p0_steps p0_pastFirst p0_past p0_goings p0_rowSize p0_ways p0_hasField p0_fieldSize p0_faultNow p0_hasTree p0_treeSize p0_weightCount p0_roundCount p0_setCount p0_next) := hD
  refine lv_if_ne (tgt := 11) hx hb dX10_next_5 (by decide) (fun c2 => ?_) (fun c3 => ?_)
  · have hw := hw.1 c2
    refine lv_aload_n hx hb dX10_next_11 rfl (lv_at hl 0 rfl) ?_
    refine lv_iload_n hx hb dX10_next_12 rfl (lv_at hl 1 rfl) ?_
    obtain ⟨hPc, hDc⟩ := x_sub (wc := (wld_X10_askField cI cJ cZ h_p0 ad_p0 p0_places p0_steps p0_pastFirst p0_past p0_goings p0_rowSize p0_ways p0_hasField p0_fieldSize p0_faultNow p0_hasTree p0_treeSize p0_weightCount p0_roundCount p0_setCount)) hP hD [0] (n := 2) rfl rfl (by decide +kernel)
    refine x_calli (ws' := fun (u : Unit) => (wld_X10_next cI cJ cZ h_p0 ad_p0 p0_places p0_steps p0_pastFirst p0_past p0_goings p0_rowSize p0_ways p0_hasField p0_fieldSize p0_faultNow p0_hasTree p0_treeSize p0_weightCount p0_roundCount p0_setCount p0_next)) hP hD hS hA [0] [1] [1, 0] (n := 2) (k := 1) rfl (fun _ => rfl) rfl (by decide +kernel) (fun _ => rfl) (va_runV (As := [.int a1]) (rest := []) ⟨hx, hb, hml, hown, hts⟩ (c_X10_askField (l := l) (dC := dC) (dI := dI) (cI := cI) (cJ := cJ) (cZ := cZ) (sz := H.size) (h_p0 := h_p0) (ad_p0 := ad_p0) (p0_places := p0_places) (p0_steps := p0_steps) (p0_pastFirst := p0_pastFirst) (p0_past := p0_past) (p0_goings := p0_goings) (p0_rowSize := p0_rowSize) (p0_ways := p0_ways) (p0_hasField := p0_hasField) (p0_fieldSize := p0_fieldSize) (p0_faultNow := p0_faultNow) (p0_hasTree := p0_hasTree) (p0_treeSize := p0_treeSize) (p0_weightCount := p0_weightCount) (p0_roundCount := p0_roundCount) (p0_setCount := p0_setCount) hw) (cwV 1 hts gX10_next_X10_askField rfl rfl rfl (by decide +kernel) ⟨Nat.le_of_ble_eq_true rfl, Nat.le_of_ble_eq_true rfl⟩) ⟨xPre_blind, va_recv hK hP (ci := 10) (q0 := 0) rfl rfl, xPre_at hK hPc hDc n1 n2⟩ rfl rfl hl.1 rfl (lv_room (Nat.le_of_ble_eq_true rfl)) dX10_next_13 ⟨Nat.zero_le _, Nat.zero_le _⟩) (fun r4 u H locs hw hP hD hS => ?_)
    try dsimp only at hw
    have hP : va_P (dC, dI) vwCl (wld_X10_next cI cJ cZ h_p0 ad_p0 p0_places p0_steps p0_pastFirst p0_past p0_goings p0_rowSize p0_ways p0_hasField p0_fieldSize p0_faultNow p0_hasTree p0_treeSize p0_weightCount p0_roundCount p0_setCount p0_next) H := hP
    have hD : va_D A (wld_X10_next cI cJ cZ h_p0 ad_p0 p0_places p0_steps p0_pastFirst p0_past p0_goings p0_rowSize p0_ways p0_hasField p0_fieldSize p0_faultNow p0_hasTree p0_treeSize p0_weightCount p0_roundCount p0_setCount p0_next) := hD
    refine lv_istore_n (lv' := [(3, .int r4), (0, .ref h_p0), (1, .int a1), (2, .int a2)]) hx hb dX10_next_16 rfl hl (by decide) rfl (fun ls hl => ?_)
    refine lv_iload_n hx hb dX10_next_17 rfl (lv_at hl 0 rfl) ?_
    refine lv_if_ge (tgt := 25) hx hb dX10_next_18 (by decide) (fun c5 => ?_) (fun c6 => ?_)
    · have hw := hw.1 c5
      refine lv_aload_n hx hb dX10_next_25 rfl (lv_at hl 1 rfl) ?_
      refine va_get (D := (dC, dI)) (ci := 10) (v := .ref (ad_p0 30)) (C := RX10) (T := TX10) (N := 50) hx hb hts iX10 hown hK hP 0 rfl rfl 30 (by decide) (hts (.fieldLink RX10 75 "NetHouseModel" "next" "[I") (by decide +kernel)) (fun _ h9 => h9) rfl dX10_next_26 ?_
      refine lv_bipush (v := 16) hx hb dX10_next_29 (by decide) ?_
      refine lv_iload_n hx hb dX10_next_31 rfl (lv_at hl 2 rfl) ?_
      refine lv_imul hx hb dX10_next_32 ?_
      refine lv_iload_n hx hb dX10_next_33 rfl (lv_at hl 3 rfl) ?_
      refine lv_iadd hx hb dX10_next_34 ?_
      refine va_iald hx hb hK hP 1 0 rfl rfl hw.1 dX10_next_35 ?_
      have hw := hw.2
      exact x_iret (w1 := fun (u : Unit) => (wld_X10_next cI cJ cZ h_p0 ad_p0 p0_places p0_steps p0_pastFirst p0_past p0_goings p0_rowSize p0_ways p0_hasField p0_fieldSize p0_faultNow p0_hasTree p0_treeSize p0_weightCount p0_roundCount p0_setCount p0_next)) hx hb hr hlocks () hw hP hD hS dX10_next_36
    · have hw := hw.2 c6
      refine lv_iload_n hx hb dX10_next_21 rfl (lv_at hl 0 rfl) ?_
      refine lv_goto (tgt := 36) hx hb dX10_next_22 (by decide) ?_
      exact x_iret (w1 := fun (u : Unit) => (wld_X10_next cI cJ cZ h_p0 ad_p0 p0_places p0_steps p0_pastFirst p0_past p0_goings p0_rowSize p0_ways p0_hasField p0_fieldSize p0_faultNow p0_hasTree p0_treeSize p0_weightCount p0_roundCount p0_setCount p0_next)) hx hb hr hlocks () hw hP hD hS dX10_next_36
  · have hw := hw.2 c3
    refine lv_ldc (v := -2000000001) hx hb hown (hts (.constant RX10 159 (-2000000001)) (by decide +kernel)) dX10_next_8 ?_
    exact x_iret (w1 := fun (u : Unit) => (wld_X10_next cI cJ cZ h_p0 ad_p0 p0_places p0_steps p0_pastFirst p0_past p0_goings p0_rowSize p0_ways p0_hasField p0_fieldSize p0_faultNow p0_hasTree p0_treeSize p0_weightCount p0_roundCount p0_setCount p0_next)) hx hb hr hlocks () hw hP hD hS dX10_next_10
abbrev wld_X10_way (cI cJ cZ : ClassId) (h_p0 : Nat) (ad_p0 : Nat → Nat) (p0_places : Int32) (p0_steps : Int32) (p0_pastFirst : Int32) (p0_past : Int32) (p0_goings : Int32) (p0_rowSize : Int32) (p0_ways : Int32) (p0_hasField : Int32) (p0_fieldSize : Int32) (p0_faultNow : Int32) (p0_hasTree : Int32) (p0_treeSize : Int32) (p0_weightCount : Int32) (p0_roundCount : Int32) (p0_setCount : Int32) (p0_by : Nat → Int32) (p0_former : Nat → Int32) (p0_way : Nat → Int32) : va_W := [(h_p0, .inr (10, [.int p0_places, .int p0_steps, .ref (ad_p0 2), .ref (ad_p0 3), .ref (ad_p0 4), .ref (ad_p0 5), .ref (ad_p0 6), .ref (ad_p0 7), .ref (ad_p0 8), .ref (ad_p0 9), .ref (ad_p0 10), .ref (ad_p0 11), .ref (ad_p0 12), .ref (ad_p0 13), .ref (ad_p0 14), .int p0_pastFirst, .int p0_past, .int p0_goings, .int p0_rowSize, .ref (ad_p0 19), .ref (ad_p0 20), .int p0_ways, .ref (ad_p0 22), .ref (ad_p0 23), .int p0_hasField, .int p0_fieldSize, .ref (ad_p0 26), .ref (ad_p0 27), .ref (ad_p0 28), .ref (ad_p0 29), .ref (ad_p0 30), .ref (ad_p0 31), .ref (ad_p0 32), .int p0_faultNow, .int p0_hasTree, .int p0_treeSize, .ref (ad_p0 36), .ref (ad_p0 37), .ref (ad_p0 38), .ref (ad_p0 39), .ref (ad_p0 40), .ref (ad_p0 41), .ref (ad_p0 42), .int p0_weightCount, .ref (ad_p0 44), .int p0_roundCount, .ref (ad_p0 46), .int p0_setCount, .ref (ad_p0 48), .ref (ad_p0 49)])), ((ad_p0 29), .inl (cI, 8000, .inl p0_by)), ((ad_p0 28), .inl (cI, 8000, .inl p0_former)), ((ad_p0 22), .inl (cI, 8000, .inl p0_way))]
abbrev q_X10_way (dC : Nat → ClassId) (dI : Nat → Nat → Nat) (cI cJ cZ : ClassId) (h_p0 : Nat) (ad_p0 : Nat → Nat) (p0_places : Int32) (p0_steps : Int32) (p0_pastFirst : Int32) (p0_past : Int32) (p0_goings : Int32) (p0_rowSize : Int32) (p0_ways : Int32) (p0_hasField : Int32) (p0_fieldSize : Int32) (p0_faultNow : Int32) (p0_hasTree : Int32) (p0_treeSize : Int32) (p0_weightCount : Int32) (p0_roundCount : Int32) (p0_setCount : Int32) (p0_by : Nat → Int32) (p0_former : Nat → Int32) (p0_way : Nat → Int32) (post : Int32 → (Int32) → (Nat → Int32) → Prop) (A : Nat → Prop) : Array Value → State → Outcome → State → Prop := va_Qi (fun r (u : (Int32) × (Nat → Int32)) => post r (u.1) (u.2)) (fun (u : (Int32) × (Nat → Int32)) t => xPost (dC, dI) A (wld_X10_way cI cJ cZ h_p0 ad_p0 p0_places p0_steps p0_pastFirst p0_past p0_goings p0_rowSize (u.1) p0_hasField p0_fieldSize p0_faultNow p0_hasTree p0_treeSize p0_weightCount p0_roundCount p0_setCount p0_by p0_former (u.2)) t) A
def w_X10_way_L17b (v1 : Int32) (p0_fieldSize : Int32) (p0_hasField : Int32) (p0_ways : Int32) (p0_by : Nat → Int32) (p0_former : Nat → Int32) (p0_way : Nat → Int32) (post : Int32 → (Int32) → (Nat → Int32) → Prop) (K : (Int32) → (Int32) → Prop) (rec : (Int32) → (Int32) → Prop) (v3 : Int32) (v4 : Int32) : Prop :=
    (v4 = 0 →
      K v3 v4) ∧
    (¬ v4 = 0 →
      ∀ x6 : Int32, x6 = v3 + (1 : Int32) →
      vp_in v4 8000 ∧
      ∀ x7 : Int32, x7 = (p0_former v4.toNatClampNeg) →
      rec x6 x7)
def w_X10_way_L17 (v1 : Int32) (p0_fieldSize : Int32) (p0_hasField : Int32) (p0_ways : Int32) (p0_by : Nat → Int32) (p0_former : Nat → Int32) (p0_way : Nat → Int32) (post : Int32 → (Int32) → (Nat → Int32) → Prop) (K : (Int32) → (Int32) → Prop) : Nat → (Int32) → (Int32) → Prop
  | 0, _, _ => False
  | n + 1, v3, v4 => w_X10_way_L17b v1 p0_fieldSize p0_hasField p0_ways p0_by p0_former p0_way post K (w_X10_way_L17 v1 p0_fieldSize p0_hasField p0_ways p0_by p0_former p0_way post K n) v3 v4
def w_X10_way_L45b (p0_fieldSize : Int32) (p0_hasField : Int32) (p0_ways : Int32) (p0_by : Nat → Int32) (p0_former : Nat → Int32) (post : Int32 → (Int32) → (Nat → Int32) → Prop) (K : (Int32) → (Int32) → (Nat → Int32) → Prop) (rec : (Int32) → (Int32) → (Nat → Int32) → Prop) (v3 : Int32) (v4 : Int32) (p0_way : Nat → Int32) : Prop :=
    (v4 = 0 →
      K v3 v4 p0_way) ∧
    (¬ v4 = 0 →
      ∀ x13 : Int32, x13 = v3 + (-1 : Int32) →
      vp_in v4 8000 ∧
      vp_in x13 8000 ∧
      vp_in v4 8000 ∧
      ∀ x14 : Int32, x14 = (p0_former v4.toNatClampNeg) →
      rec x13 x14 (upd p0_way x13.toNatClampNeg (p0_by v4.toNatClampNeg)))
def w_X10_way_L45 (p0_fieldSize : Int32) (p0_hasField : Int32) (p0_ways : Int32) (p0_by : Nat → Int32) (p0_former : Nat → Int32) (post : Int32 → (Int32) → (Nat → Int32) → Prop) (K : (Int32) → (Int32) → (Nat → Int32) → Prop) : Nat → (Int32) → (Int32) → (Nat → Int32) → Prop
  | 0, _, _, _ => False
  | n + 1, v3, v4, p0_way => w_X10_way_L45b p0_fieldSize p0_hasField p0_ways p0_by p0_former post K (w_X10_way_L45 p0_fieldSize p0_hasField p0_ways p0_by p0_former post K n) v3 v4 p0_way
def w_X10_way (p0_fieldSize : Int32) (p0_hasField : Int32) (p0_ways : Int32) (p0_by : Nat → Int32) (p0_former : Nat → Int32) (p0_way : Nat → Int32) (a1 : Int32) (post : Int32 → (Int32) → (Nat → Int32) → Prop) : Prop :=
  w_X10_askField p0_fieldSize p0_hasField a1 (fun r1 =>
  (0 ≤ r1 →
    ∃ n : Nat, w_X10_way_L17 a1 p0_fieldSize p0_hasField p0_ways p0_by p0_former p0_way post (fun v9 v10 =>
        ∃ n : Nat, w_X10_way_L45 p0_fieldSize p0_hasField v9 p0_by p0_former post (fun v16 v17 s18 =>
            (post v9 v9 s18)) n v9 a1 p0_way) n (0 : Int32) a1) ∧
  (¬ 0 ≤ r1 →
    (post r1 p0_ways p0_way)))
set_option maxHeartbeats 4000000 in
set_option maxRecDepth 100000 in
theorem c_X10_way_L17 {p : Program} {l : Launch} {e : Env} {s : State} {m : MethodId} {args : Array Value} {below : List Frame} {meth : Method} {c : Code} {dC : Nat → ClassId} {dI : Nat → Nat → Nat} {A : Nat → Prop} {cI cJ cZ : ClassId} {h_p0 : Nat} {ad_p0 : Nat → Nat} {p0_places : Int32} {p0_steps : Int32} {p0_pastFirst : Int32} {p0_past : Int32} {p0_goings : Int32} {p0_rowSize : Int32} {p0_ways : Int32} {p0_hasField : Int32} {p0_fieldSize : Int32} {p0_faultNow : Int32} {p0_hasTree : Int32} {p0_treeSize : Int32} {p0_weightCount : Int32} {p0_roundCount : Int32} {p0_setCount : Int32} {p0_by : Nat → Int32} {p0_former : Nat → Int32} {p0_way : Nat → Int32} {v1 : Int32}  {post : Int32 → (Int32) → (Nat → Int32) → Prop} {K : (Int32) → (Int32) → Prop} (E0 : xEnv p s m args meth c cX10_way (some .int) 5 RX10 wsX10_way (dC, dI) cI cJ cZ A) (hk : ∀ (v3 : Int32) (v4 : Int32) (H : Heap) (locs : List Loc) (ls : Array Slot), K v3 v4 → va_P (dC, dI) vwCl (wld_X10_way cI cJ cZ h_p0 ad_p0 p0_places p0_steps p0_pastFirst p0_past p0_goings p0_rowSize p0_ways p0_hasField p0_fieldSize p0_faultNow p0_hasTree p0_treeSize p0_weightCount p0_roundCount p0_setCount p0_by p0_former p0_way) H → va_D A (wld_X10_way cI cJ cZ h_p0 ad_p0 p0_places p0_steps p0_pastFirst p0_past p0_goings p0_rowSize p0_ways p0_hasField p0_fieldSize p0_faultNow p0_hasTree p0_treeSize p0_weightCount p0_roundCount p0_setCount p0_by p0_former p0_way) → va_S A s.heap H locs → lv_has ls 5 [(0, .ref h_p0), (1, .int v1), (3, .int v3)] → W p l e ({ frames := 2, cells := 0, slots := 0, locals := 43 }) s m args below meth c H locs 0 0 (MQ below (q_X10_way dC dI cI cJ cZ h_p0 ad_p0 p0_places p0_steps p0_pastFirst p0_past p0_goings p0_rowSize p0_ways p0_hasField p0_fieldSize p0_faultNow p0_hasTree p0_treeSize p0_weightCount p0_roundCount p0_setCount p0_by p0_former p0_way post A) args s 0 0 A) (F0 m 37 ls [])) : ∀ (n : Nat) (v3 : Int32) (v4 : Int32), w_X10_way_L17 v1 p0_fieldSize p0_hasField p0_ways p0_by p0_former p0_way post K n v3 v4 → ∀ (H : Heap) (locs : List Loc) (ls : Array Slot), va_P (dC, dI) vwCl (wld_X10_way cI cJ cZ h_p0 ad_p0 p0_places p0_steps p0_pastFirst p0_past p0_goings p0_rowSize p0_ways p0_hasField p0_fieldSize p0_faultNow p0_hasTree p0_treeSize p0_weightCount p0_roundCount p0_setCount p0_by p0_former p0_way) H → va_D A (wld_X10_way cI cJ cZ h_p0 ad_p0 p0_places p0_steps p0_pastFirst p0_past p0_goings p0_rowSize p0_ways p0_hasField p0_fieldSize p0_faultNow p0_hasTree p0_treeSize p0_weightCount p0_roundCount p0_setCount p0_by p0_former p0_way) → va_S A s.heap H locs → lv_has ls 5 [(0, .ref h_p0), (1, .int v1), (3, .int v3), (4, .int v4)] → W p l e ({ frames := 2, cells := 0, slots := 0, locals := 43 }) s m args below meth c H locs 0 0 (MQ below (q_X10_way dC dI cI cJ cZ h_p0 ad_p0 p0_places p0_steps p0_pastFirst p0_past p0_goings p0_rowSize p0_ways p0_hasField p0_fieldSize p0_faultNow p0_hasTree p0_treeSize p0_weightCount p0_roundCount p0_setCount p0_by p0_former p0_way post A) args s 0 0 A) (F0 m 17 ls []) := by
  obtain ⟨hx, hb, hr, hml, hown, hts, hlocks, hK, hA, n1, n2⟩ := id E0
  have iX10 : ∀ w ∈ u_ws RX10 TX10 50, w ∈ wsX10_way := fun w h => List.mem_cons_of_mem _ (List.mem_append_right _ h)
  intro n
  induction n with
  | zero => intro v3 v4 hw; exact hw.elim
  | succ n ih =>
    intro v3 v4 hw H locs ls hP hD hS hl
    have hw : w_X10_way_L17b v1 p0_fieldSize p0_hasField p0_ways p0_by p0_former p0_way post K (w_X10_way_L17 v1 p0_fieldSize p0_hasField p0_ways p0_by p0_former p0_way post K n) v3 v4 := hw
    unfold w_X10_way_L17b at hw
    refine lv_iload hx hb dX10_way_17 (lv_at hl 3 rfl) ?_
    refine lv_if_eq (tgt := 37) hx hb dX10_way_19 (by decide) (fun c4 => ?_) (fun c5 => ?_)
    · have hw := hw.1 c4
      exact hk _ _ _ _ _ hw hP hD hS (lv_sub hl [0, 1, 2] rfl)
    · have hw := hw.2 c5
      obtain ⟨x6, ex6⟩ : ∃ y : Int32, y = v3 + (1 : Int32) := ⟨_, rfl⟩
      have hw := hw x6 ex6
      refine lv_iinc (v := x6) (lv' := [(3, .int x6), (0, .ref h_p0), (1, .int v1), (4, .int v4)]) hx hb dX10_way_22 hl (k := 2) rfl (by rw [ex6]; rfl) (by decide) rfl (fun ls hl => ?_)
      refine lv_aload_n hx hb dX10_way_25 rfl (lv_at hl 1 rfl) ?_
      refine va_get (D := (dC, dI)) (ci := 10) (v := .ref (ad_p0 28)) (C := RX10) (T := TX10) (N := 50) hx hb hts iX10 hown hK hP 0 rfl rfl 28 (by decide) (hts (.fieldLink RX10 69 "NetHouseModel" "former" "[I") (by decide +kernel)) (fun _ h9 => h9) rfl dX10_way_26 ?_
      refine lv_iload hx hb dX10_way_29 (lv_at hl 3 rfl) ?_
      refine va_iald hx hb hK hP 2 0 rfl rfl hw.1 dX10_way_31 ?_
      have hw := hw.2
      refine lv_topi (fun x7 ex7 => ?_)
      have hw := hw x7 ex7
      refine lv_istore (lv' := [(4, .int x7), (3, .int x6), (0, .ref h_p0), (1, .int v1)]) hx hb dX10_way_32 hl (by decide) rfl (fun ls hl => ?_)
      refine lv_goto (tgt := 17) hx hb dX10_way_34 (by decide) ?_
      exact ih _ _ hw _ _ _ hP hD hS (lv_sub hl [2, 3, 1, 0] rfl)
set_option maxHeartbeats 4000000 in
set_option maxRecDepth 100000 in
theorem c_X10_way_L45 {p : Program} {l : Launch} {e : Env} {s : State} {m : MethodId} {args : Array Value} {below : List Frame} {meth : Method} {c : Code} {dC : Nat → ClassId} {dI : Nat → Nat → Nat} {A : Nat → Prop} {cI cJ cZ : ClassId} {h_p0 : Nat} {ad_p0 : Nat → Nat} {p0_places : Int32} {p0_steps : Int32} {p0_pastFirst : Int32} {p0_past : Int32} {p0_goings : Int32} {p0_rowSize : Int32} {p0_ways : Int32} {p0_hasField : Int32} {p0_fieldSize : Int32} {p0_faultNow : Int32} {p0_hasTree : Int32} {p0_treeSize : Int32} {p0_weightCount : Int32} {p0_roundCount : Int32} {p0_setCount : Int32} {p0_by : Nat → Int32} {p0_former : Nat → Int32} {z_p0_way : Nat → Int32} {post : Int32 → (Int32) → (Nat → Int32) → Prop} {K : (Int32) → (Int32) → (Nat → Int32) → Prop} (E0 : xEnv p s m args meth c cX10_way (some .int) 5 RX10 wsX10_way (dC, dI) cI cJ cZ A) (hk : ∀ (v3 : Int32) (v4 : Int32) (p0_way : Nat → Int32) (H : Heap) (locs : List Loc) (ls : Array Slot), K v3 v4 p0_way → va_P (dC, dI) vwCl (wld_X10_way cI cJ cZ h_p0 ad_p0 p0_places p0_steps p0_pastFirst p0_past p0_goings p0_rowSize p0_ways p0_hasField p0_fieldSize p0_faultNow p0_hasTree p0_treeSize p0_weightCount p0_roundCount p0_setCount p0_by p0_former p0_way) H → va_D A (wld_X10_way cI cJ cZ h_p0 ad_p0 p0_places p0_steps p0_pastFirst p0_past p0_goings p0_rowSize p0_ways p0_hasField p0_fieldSize p0_faultNow p0_hasTree p0_treeSize p0_weightCount p0_roundCount p0_setCount p0_by p0_former p0_way) → va_S A s.heap H locs → lv_has ls 5 [(0, .ref h_p0)] → W p l e ({ frames := 2, cells := 0, slots := 0, locals := 43 }) s m args below meth c H locs 0 0 (MQ below (q_X10_way dC dI cI cJ cZ h_p0 ad_p0 p0_places p0_steps p0_pastFirst p0_past p0_goings p0_rowSize p0_ways p0_hasField p0_fieldSize p0_faultNow p0_hasTree p0_treeSize p0_weightCount p0_roundCount p0_setCount p0_by p0_former z_p0_way post A) args s 0 0 A) (F0 m 78 ls [])) : ∀ (n : Nat) (v3 : Int32) (v4 : Int32) (p0_way : Nat → Int32), w_X10_way_L45 p0_fieldSize p0_hasField p0_ways p0_by p0_former post K n v3 v4 p0_way → ∀ (H : Heap) (locs : List Loc) (ls : Array Slot), va_P (dC, dI) vwCl (wld_X10_way cI cJ cZ h_p0 ad_p0 p0_places p0_steps p0_pastFirst p0_past p0_goings p0_rowSize p0_ways p0_hasField p0_fieldSize p0_faultNow p0_hasTree p0_treeSize p0_weightCount p0_roundCount p0_setCount p0_by p0_former p0_way) H → va_D A (wld_X10_way cI cJ cZ h_p0 ad_p0 p0_places p0_steps p0_pastFirst p0_past p0_goings p0_rowSize p0_ways p0_hasField p0_fieldSize p0_faultNow p0_hasTree p0_treeSize p0_weightCount p0_roundCount p0_setCount p0_by p0_former p0_way) → va_S A s.heap H locs → lv_has ls 5 [(0, .ref h_p0), (3, .int v3), (4, .int v4)] → W p l e ({ frames := 2, cells := 0, slots := 0, locals := 43 }) s m args below meth c H locs 0 0 (MQ below (q_X10_way dC dI cI cJ cZ h_p0 ad_p0 p0_places p0_steps p0_pastFirst p0_past p0_goings p0_rowSize p0_ways p0_hasField p0_fieldSize p0_faultNow p0_hasTree p0_treeSize p0_weightCount p0_roundCount p0_setCount p0_by p0_former z_p0_way post A) args s 0 0 A) (F0 m 45 ls []) := by
  obtain ⟨hx, hb, hr, hml, hown, hts, hlocks, hK, hA, n1, n2⟩ := id E0
  have iX10 : ∀ w ∈ u_ws RX10 TX10 50, w ∈ wsX10_way := fun w h => List.mem_cons_of_mem _ (List.mem_append_right _ h)
  intro n
  induction n with
  | zero => intro v3 v4 p0_way hw; exact hw.elim
  | succ n ih =>
    intro v3 v4 p0_way hw H locs ls hP hD hS hl
    have hw : w_X10_way_L45b p0_fieldSize p0_hasField p0_ways p0_by p0_former post K (w_X10_way_L45 p0_fieldSize p0_hasField p0_ways p0_by p0_former post K n) v3 v4 p0_way := hw
    unfold w_X10_way_L45b at hw
    refine lv_iload hx hb dX10_way_45 (lv_at hl 2 rfl) ?_
    refine lv_if_eq (tgt := 78) hx hb dX10_way_47 (by decide) (fun c11 => ?_) (fun c12 => ?_)
    · have hw := hw.1 c11
      exact hk _ _ _ _ _ _ hw hP hD hS (lv_sub hl [0] rfl)
    · have hw := hw.2 c12
      obtain ⟨x13, ex13⟩ : ∃ y : Int32, y = v3 + (-1 : Int32) := ⟨_, rfl⟩
      have hw := hw x13 ex13
      refine lv_iinc (v := x13) (lv' := [(3, .int x13), (0, .ref h_p0), (4, .int v4)]) hx hb dX10_way_50 hl (k := 1) rfl (by rw [ex13]; rfl) (by decide) rfl (fun ls hl => ?_)
      refine lv_aload_n hx hb dX10_way_53 rfl (lv_at hl 1 rfl) ?_
      refine va_get (D := (dC, dI)) (ci := 10) (v := .ref (ad_p0 22)) (C := RX10) (T := TX10) (N := 50) hx hb hts iX10 hown hK hP 0 rfl rfl 22 (by decide) (hts (.fieldLink RX10 56 "NetHouseModel" "way" "[I") (by decide +kernel)) (fun _ h9 => h9) rfl dX10_way_54 ?_
      refine lv_iload_n hx hb dX10_way_57 rfl (lv_at hl 0 rfl) ?_
      refine lv_aload_n hx hb dX10_way_58 rfl (lv_at hl 1 rfl) ?_
      refine va_get (D := (dC, dI)) (ci := 10) (v := .ref (ad_p0 29)) (C := RX10) (T := TX10) (N := 50) hx hb hts iX10 hown hK hP 0 rfl rfl 29 (by decide) (hts (.fieldLink RX10 72 "NetHouseModel" "by" "[I") (by decide +kernel)) (fun _ h9 => h9) rfl dX10_way_59 ?_
      refine lv_iload hx hb dX10_way_62 (lv_at hl 2 rfl) ?_
      refine va_iald hx hb hK hP 1 0 rfl rfl hw.1 dX10_way_64 ?_
      have hw := hw.2
      refine va_iast hx hb hK hP hD hS 3 0 rfl rfl hw.1 dX10_way_65 (fun H locs hP hD hS => ?_)
      have hw := hw.2
      have hP : va_P (dC, dI) vwCl (wld_X10_way cI cJ cZ h_p0 ad_p0 p0_places p0_steps p0_pastFirst p0_past p0_goings p0_rowSize p0_ways p0_hasField p0_fieldSize p0_faultNow p0_hasTree p0_treeSize p0_weightCount p0_roundCount p0_setCount p0_by p0_former (upd p0_way x13.toNatClampNeg (p0_by v4.toNatClampNeg))) H := hP
      have hD : va_D A (wld_X10_way cI cJ cZ h_p0 ad_p0 p0_places p0_steps p0_pastFirst p0_past p0_goings p0_rowSize p0_ways p0_hasField p0_fieldSize p0_faultNow p0_hasTree p0_treeSize p0_weightCount p0_roundCount p0_setCount p0_by p0_former (upd p0_way x13.toNatClampNeg (p0_by v4.toNatClampNeg))) := hD
      refine lv_aload_n hx hb dX10_way_66 rfl (lv_at hl 1 rfl) ?_
      refine va_get (D := (dC, dI)) (ci := 10) (v := .ref (ad_p0 28)) (C := RX10) (T := TX10) (N := 50) hx hb hts iX10 hown hK hP 0 rfl rfl 28 (by decide) (hts (.fieldLink RX10 69 "NetHouseModel" "former" "[I") (by decide +kernel)) (fun _ h9 => h9) rfl dX10_way_67 ?_
      refine lv_iload hx hb dX10_way_70 (lv_at hl 2 rfl) ?_
      refine va_iald hx hb hK hP 2 0 rfl rfl hw.1 dX10_way_72 ?_
      have hw := hw.2
      refine lv_topi (fun x14 ex14 => ?_)
      have hw := hw x14 ex14
      refine lv_istore (lv' := [(4, .int x14), (3, .int x13), (0, .ref h_p0)]) hx hb dX10_way_73 hl (by decide) rfl (fun ls hl => ?_)
      refine lv_goto (tgt := 45) hx hb dX10_way_75 (by decide) ?_
      exact ih _ _ _ hw _ _ _ hP hD hS (lv_sub hl [2, 1, 0] rfl)
set_option maxHeartbeats 4000000 in
set_option maxRecDepth 100000 in
theorem c_X10_way {l : Launch} {dC : Nat → ClassId} {dI : Nat → Nat → Nat} {sz : Nat} {cI cJ cZ : ClassId} {h_p0 : Nat} {ad_p0 : Nat → Nat} {p0_places : Int32} {p0_steps : Int32} {p0_pastFirst : Int32} {p0_past : Int32} {p0_goings : Int32} {p0_rowSize : Int32} {p0_ways : Int32} {p0_hasField : Int32} {p0_fieldSize : Int32} {p0_faultNow : Int32} {p0_hasTree : Int32} {p0_treeSize : Int32} {p0_weightCount : Int32} {p0_roundCount : Int32} {p0_setCount : Int32} {p0_by : Nat → Int32} {p0_former : Nat → Int32} {p0_way : Nat → Int32} {a1 : Int32} {post : Int32 → (Int32) → (Nat → Int32) → Prop} (hw : w_X10_way p0_fieldSize p0_hasField p0_ways p0_by p0_former p0_way a1 post) : Met l yX10_way wsX10_way ({ frames := 2, cells := 0, slots := 0, locals := 43 }) (va_Pc [.ref h_p0, .int a1] (xPre (dC, dI) cI cJ cZ (wld_X10_way cI cJ cZ h_p0 ad_p0 p0_places p0_steps p0_pastFirst p0_past p0_goings p0_rowSize p0_ways p0_hasField p0_fieldSize p0_faultNow p0_hasTree p0_treeSize p0_weightCount p0_roundCount p0_setCount p0_by p0_former p0_way) sz)) (q_X10_way dC dI cI cJ cZ h_p0 ad_p0 p0_places p0_steps p0_pastFirst p0_past p0_goings p0_rowSize p0_ways p0_hasField p0_fieldSize p0_faultNow p0_hasTree p0_treeSize p0_weightCount p0_roundCount p0_setCount p0_by p0_former p0_way post (va_A (wld_X10_way cI cJ cZ h_p0 ad_p0 p0_places p0_steps p0_pastFirst p0_past p0_goings p0_rowSize p0_ways p0_hasField p0_fieldSize p0_faultNow p0_hasTree p0_treeSize p0_weightCount p0_roundCount p0_setCount p0_by p0_former p0_way) sz)) 0 0 (va_A (wld_X10_way cI cJ cZ h_p0 ad_p0 p0_places p0_steps p0_pastFirst p0_past p0_goings p0_rowSize p0_ways p0_hasField p0_fieldSize p0_faultNow p0_hasTree p0_treeSize p0_weightCount p0_roundCount p0_setCount p0_by p0_former p0_way) sz) := by
  refine x_met (cc := cX10_way) (maxL := 5) (ret := (some .int)) (own := RX10) (Qc := fun A => (q_X10_way dC dI cI cJ cZ h_p0 ad_p0 p0_places p0_steps p0_pastFirst p0_past p0_goings p0_rowSize p0_ways p0_hasField p0_fieldSize p0_faultNow p0_hasTree p0_treeSize p0_weightCount p0_roundCount p0_setCount p0_by p0_former p0_way post A)) (by decide) rfl rfl (Nat.le_of_ble_eq_true rfl) ?_
  intro p e s m args below meth c A ls E0 hP hD hS hl
  obtain ⟨hx, hb, hr, hml, hown, hts, hlocks, hK, hA, n1, n2⟩ := id E0
  have iX10 : ∀ w ∈ u_ws RX10 TX10 50, w ∈ wsX10_way := fun w h => List.mem_cons_of_mem _ (List.mem_append_right _ h)
  have hS0 := hS
  have hl : lv_has ls 5 [(0, .ref h_p0), (1, .int a1)] := hl
  unfold w_X10_way at hw
  obtain ⟨H, hH⟩ : ∃ H, H = s.heap := ⟨_, rfl⟩
  have hS : va_S A s.heap H [] := by rw [hH]; exact hS
  have hP : va_P (dC, dI) vwCl (wld_X10_way cI cJ cZ h_p0 ad_p0 p0_places p0_steps p0_pastFirst p0_past p0_goings p0_rowSize p0_ways p0_hasField p0_fieldSize p0_faultNow p0_hasTree p0_treeSize p0_weightCount p0_roundCount p0_setCount p0_by p0_former p0_way) H := by rw [hH]; exact hP
  suffices hG : W p l e ({ frames := 2, cells := 0, slots := 0, locals := 43 }) s m args below meth c H [] 0 0 (MQ below (q_X10_way dC dI cI cJ cZ h_p0 ad_p0 p0_places p0_steps p0_pastFirst p0_past p0_goings p0_rowSize p0_ways p0_hasField p0_fieldSize p0_faultNow p0_hasTree p0_treeSize p0_weightCount p0_roundCount p0_setCount p0_by p0_former p0_way post A) args s 0 0 A) (F0 m 0 ls []) by rw [hH] at hG; exact hG
  clear hH
  refine lv_aload_n hx hb dX10_way_0 rfl (lv_at hl 0 rfl) ?_
  refine lv_iload_n hx hb dX10_way_1 rfl (lv_at hl 1 rfl) ?_
  obtain ⟨hPc, hDc⟩ := x_sub (wc := (wld_X10_askField cI cJ cZ h_p0 ad_p0 p0_places p0_steps p0_pastFirst p0_past p0_goings p0_rowSize p0_ways p0_hasField p0_fieldSize p0_faultNow p0_hasTree p0_treeSize p0_weightCount p0_roundCount p0_setCount)) hP hD [0] (n := 4) rfl rfl (by decide +kernel)
  refine x_calli (ws' := fun (u : Unit) => (wld_X10_way cI cJ cZ h_p0 ad_p0 p0_places p0_steps p0_pastFirst p0_past p0_goings p0_rowSize p0_ways p0_hasField p0_fieldSize p0_faultNow p0_hasTree p0_treeSize p0_weightCount p0_roundCount p0_setCount p0_by p0_former p0_way)) hP hD hS hA [0] [1, 2, 3] [3, 0, 1, 2] (n := 4) (k := 1) rfl (fun _ => rfl) rfl (by decide +kernel) (fun _ => rfl) (va_runV (As := [.int a1]) (rest := []) ⟨hx, hb, hml, hown, hts⟩ (c_X10_askField (l := l) (dC := dC) (dI := dI) (cI := cI) (cJ := cJ) (cZ := cZ) (sz := H.size) (h_p0 := h_p0) (ad_p0 := ad_p0) (p0_places := p0_places) (p0_steps := p0_steps) (p0_pastFirst := p0_pastFirst) (p0_past := p0_past) (p0_goings := p0_goings) (p0_rowSize := p0_rowSize) (p0_ways := p0_ways) (p0_hasField := p0_hasField) (p0_fieldSize := p0_fieldSize) (p0_faultNow := p0_faultNow) (p0_hasTree := p0_hasTree) (p0_treeSize := p0_treeSize) (p0_weightCount := p0_weightCount) (p0_roundCount := p0_roundCount) (p0_setCount := p0_setCount) hw) (cwV 1 hts gX10_way_X10_askField rfl rfl rfl (by decide +kernel) ⟨Nat.le_of_ble_eq_true rfl, Nat.le_of_ble_eq_true rfl⟩) ⟨xPre_blind, va_recv hK hP (ci := 10) (q0 := 0) rfl rfl, xPre_at hK hPc hDc n1 n2⟩ rfl rfl hl.1 rfl (lv_room (Nat.le_of_ble_eq_true rfl)) dX10_way_2 ⟨Nat.zero_le _, Nat.zero_le _⟩) (fun r1 u H locs hw hP hD hS => ?_)
  try dsimp only at hw
  have hP : va_P (dC, dI) vwCl (wld_X10_way cI cJ cZ h_p0 ad_p0 p0_places p0_steps p0_pastFirst p0_past p0_goings p0_rowSize p0_ways p0_hasField p0_fieldSize p0_faultNow p0_hasTree p0_treeSize p0_weightCount p0_roundCount p0_setCount p0_by p0_former p0_way) H := hP
  have hD : va_D A (wld_X10_way cI cJ cZ h_p0 ad_p0 p0_places p0_steps p0_pastFirst p0_past p0_goings p0_rowSize p0_ways p0_hasField p0_fieldSize p0_faultNow p0_hasTree p0_treeSize p0_weightCount p0_roundCount p0_setCount p0_by p0_former p0_way) := hD
  refine lv_istore_n (lv' := [(2, .int r1), (0, .ref h_p0), (1, .int a1)]) hx hb dX10_way_5 rfl hl (by decide) rfl (fun ls hl => ?_)
  refine lv_iload_n hx hb dX10_way_6 rfl (lv_at hl 0 rfl) ?_
  refine lv_if_ge (tgt := 12) hx hb dX10_way_7 (by decide) (fun c2 => ?_) (fun c3 => ?_)
  · have hw := hw.1 c2
    refine lv_iconst (v := 0) hx hb dX10_way_12 (by decide) ?_
    refine lv_istore_n (lv' := [(3, .int (0 : Int32)), (2, .int r1), (0, .ref h_p0), (1, .int a1)]) hx hb dX10_way_13 rfl hl (by decide) rfl (fun ls hl => ?_)
    refine lv_iload_n hx hb dX10_way_14 rfl (lv_at hl 3 rfl) ?_
    refine lv_istore (lv' := [(4, .int a1), (3, .int (0 : Int32)), (2, .int r1), (0, .ref h_p0), (1, .int a1)]) hx hb dX10_way_15 hl (by decide) rfl (fun ls hl => ?_)
    obtain ⟨n8, hw⟩ := hw
    refine c_X10_way_L17 (l := l)  E0 ?_ n8 _ _ hw _ _ _ hP hD hS (lv_sub hl [3, 4, 1, 0] rfl)
    · intro v9 v10 H locs ls hw hP hD hS hl
      have hP : va_P (dC, dI) vwCl (wld_X10_way cI cJ cZ h_p0 ad_p0 p0_places p0_steps p0_pastFirst p0_past p0_goings p0_rowSize p0_ways p0_hasField p0_fieldSize p0_faultNow p0_hasTree p0_treeSize p0_weightCount p0_roundCount p0_setCount p0_by p0_former p0_way) H := hP
      have hD : va_D A (wld_X10_way cI cJ cZ h_p0 ad_p0 p0_places p0_steps p0_pastFirst p0_past p0_goings p0_rowSize p0_ways p0_hasField p0_fieldSize p0_faultNow p0_hasTree p0_treeSize p0_weightCount p0_roundCount p0_setCount p0_by p0_former p0_way) := hD
      refine lv_aload_n hx hb dX10_way_37 rfl (lv_at hl 0 rfl) ?_
      refine lv_iload_n hx hb dX10_way_38 rfl (lv_at hl 2 rfl) ?_
      refine va_put (D := (dC, dI)) (ci := 10) (v := .int v9) (ty := .int) (C := RX10) (T := TX10) (N := 50) hx hb hts iX10 tyX10 tyX10_ok nmX10 hown hK hP hD hS 0 rfl rfl 21 (by decide) (hts (.fieldLink RX10 225 "NetHouseModel" "ways" "I") (by decide +kernel)) (fun _ h9 => h9) rfl (by decide +kernel) rfl rfl (Nat.le_of_ble_eq_true rfl) dX10_way_39 (fun H locs hP hD hS => ?_)
      have hP : va_P (dC, dI) vwCl (wld_X10_way cI cJ cZ h_p0 ad_p0 p0_places p0_steps p0_pastFirst p0_past p0_goings p0_rowSize v9 p0_hasField p0_fieldSize p0_faultNow p0_hasTree p0_treeSize p0_weightCount p0_roundCount p0_setCount p0_by p0_former p0_way) H := hP
      have hD : va_D A (wld_X10_way cI cJ cZ h_p0 ad_p0 p0_places p0_steps p0_pastFirst p0_past p0_goings p0_rowSize v9 p0_hasField p0_fieldSize p0_faultNow p0_hasTree p0_treeSize p0_weightCount p0_roundCount p0_setCount p0_by p0_former p0_way) := hD
      refine lv_iload_n hx hb dX10_way_42 rfl (lv_at hl 1 rfl) ?_
      refine lv_istore (lv' := [(4, .int a1), (0, .ref h_p0), (1, .int a1), (3, .int v9)]) hx hb dX10_way_43 hl (by decide) rfl (fun ls hl => ?_)
      obtain ⟨n15, hw⟩ := hw
      refine c_X10_way_L45 (l := l) (z_p0_way := p0_way) E0 ?_ n15 _ _ _ hw _ _ _ hP hD hS (lv_sub hl [1, 3, 0] rfl)
      · intro v16 v17 s18 H locs ls hw hP hD hS hl
        have hP : va_P (dC, dI) vwCl (wld_X10_way cI cJ cZ h_p0 ad_p0 p0_places p0_steps p0_pastFirst p0_past p0_goings p0_rowSize v9 p0_hasField p0_fieldSize p0_faultNow p0_hasTree p0_treeSize p0_weightCount p0_roundCount p0_setCount p0_by p0_former s18) H := hP
        have hD : va_D A (wld_X10_way cI cJ cZ h_p0 ad_p0 p0_places p0_steps p0_pastFirst p0_past p0_goings p0_rowSize v9 p0_hasField p0_fieldSize p0_faultNow p0_hasTree p0_treeSize p0_weightCount p0_roundCount p0_setCount p0_by p0_former s18) := hD
        refine lv_aload_n hx hb dX10_way_78 rfl (lv_at hl 0 rfl) ?_
        refine va_get (D := (dC, dI)) (ci := 10) (v := .int v9) (C := RX10) (T := TX10) (N := 50) hx hb hts iX10 hown hK hP 0 rfl rfl 21 (by decide) (hts (.fieldLink RX10 225 "NetHouseModel" "ways" "I") (by decide +kernel)) (fun _ h9 => h9) rfl dX10_way_79 ?_
        exact x_iret (w1 := fun (u : (Int32) × (Nat → Int32)) => (wld_X10_way cI cJ cZ h_p0 ad_p0 p0_places p0_steps p0_pastFirst p0_past p0_goings p0_rowSize (u.1) p0_hasField p0_fieldSize p0_faultNow p0_hasTree p0_treeSize p0_weightCount p0_roundCount p0_setCount p0_by p0_former (u.2))) hx hb hr hlocks (v9, s18) hw hP hD hS dX10_way_82
  · have hw := hw.2 c3
    refine lv_iload_n hx hb dX10_way_10 rfl (lv_at hl 0 rfl) ?_
    exact x_iret (w1 := fun (u : (Int32) × (Nat → Int32)) => (wld_X10_way cI cJ cZ h_p0 ad_p0 p0_places p0_steps p0_pastFirst p0_past p0_goings p0_rowSize (u.1) p0_hasField p0_fieldSize p0_faultNow p0_hasTree p0_treeSize p0_weightCount p0_roundCount p0_setCount p0_by p0_former (u.2))) hx hb hr hlocks (p0_ways, p0_way) hw hP hD hS dX10_way_11
abbrev wld_X10_find (cI cJ cZ : ClassId) (h_p0 : Nat) (ad_p0 : Nat → Nat) (p0_places : Int32) (p0_steps : Int32) (p0_pastFirst : Int32) (p0_past : Int32) (p0_goings : Int32) (p0_rowSize : Int32) (p0_ways : Int32) (p0_hasField : Int32) (p0_fieldSize : Int32) (p0_faultNow : Int32) (p0_hasTree : Int32) (p0_treeSize : Int32) (p0_weightCount : Int32) (p0_roundCount : Int32) (p0_setCount : Int32) (p0_come : Nat → Int32) (p0_field : Nat → Int32) (p0_order : Nat → Int32) (p0_row : Nat → Int32) : va_W := [(h_p0, .inr (10, [.int p0_places, .int p0_steps, .ref (ad_p0 2), .ref (ad_p0 3), .ref (ad_p0 4), .ref (ad_p0 5), .ref (ad_p0 6), .ref (ad_p0 7), .ref (ad_p0 8), .ref (ad_p0 9), .ref (ad_p0 10), .ref (ad_p0 11), .ref (ad_p0 12), .ref (ad_p0 13), .ref (ad_p0 14), .int p0_pastFirst, .int p0_past, .int p0_goings, .int p0_rowSize, .ref (ad_p0 19), .ref (ad_p0 20), .int p0_ways, .ref (ad_p0 22), .ref (ad_p0 23), .int p0_hasField, .int p0_fieldSize, .ref (ad_p0 26), .ref (ad_p0 27), .ref (ad_p0 28), .ref (ad_p0 29), .ref (ad_p0 30), .ref (ad_p0 31), .ref (ad_p0 32), .int p0_faultNow, .int p0_hasTree, .int p0_treeSize, .ref (ad_p0 36), .ref (ad_p0 37), .ref (ad_p0 38), .ref (ad_p0 39), .ref (ad_p0 40), .ref (ad_p0 41), .ref (ad_p0 42), .int p0_weightCount, .ref (ad_p0 44), .int p0_roundCount, .ref (ad_p0 46), .int p0_setCount, .ref (ad_p0 48), .ref (ad_p0 49)])), ((ad_p0 31), .inl (cI, 16, .inl p0_come)), ((ad_p0 26), .inl (cI, 128000, .inl p0_field)), ((ad_p0 27), .inl (cI, 8000, .inl p0_order)), ((ad_p0 19), .inl (cI, 16, .inl p0_row))]
abbrev q_X10_find (dC : Nat → ClassId) (dI : Nat → Nat → Nat) (cI cJ cZ : ClassId) (h_p0 : Nat) (ad_p0 : Nat → Nat) (p0_places : Int32) (p0_steps : Int32) (p0_pastFirst : Int32) (p0_past : Int32) (p0_goings : Int32) (p0_rowSize : Int32) (p0_ways : Int32) (p0_hasField : Int32) (p0_fieldSize : Int32) (p0_faultNow : Int32) (p0_hasTree : Int32) (p0_treeSize : Int32) (p0_weightCount : Int32) (p0_roundCount : Int32) (p0_setCount : Int32) (p0_come : Nat → Int32) (p0_field : Nat → Int32) (p0_order : Nat → Int32) (p0_row : Nat → Int32) (post : Int32 → (Nat → Int32) → Prop) (A : Nat → Prop) : Array Value → State → Outcome → State → Prop := va_Qi (fun r (u : (Nat → Int32)) => post r u) (fun (u : (Nat → Int32)) t => xPost (dC, dI) A (wld_X10_find cI cJ cZ h_p0 ad_p0 p0_places p0_steps p0_pastFirst p0_past p0_goings p0_rowSize p0_ways p0_hasField p0_fieldSize p0_faultNow p0_hasTree p0_treeSize p0_weightCount p0_roundCount p0_setCount u p0_field p0_order p0_row) t) A
def w_X10_find_L12b (p0_fieldSize : Int32) (p0_hasField : Int32) (p0_places : Int32) (p0_rowSize : Int32) (p0_field : Nat → Int32) (p0_order : Nat → Int32) (p0_row : Nat → Int32) (post : Int32 → (Nat → Int32) → Prop) (K : (Int32) → (Nat → Int32) → Prop) (rec : (Int32) → (Nat → Int32) → Prop) (v1 : Int32) (p0_come : Nat → Int32) : Prop :=
    (p0_places ≤ v1 →
      K v1 p0_come) ∧
    (¬ p0_places ≤ v1 →
      w_X10_told p0_rowSize p0_row v1 (fun r5 =>
      vp_in v1 16 ∧
      ∀ x6 : Int32, x6 = v1 + (1 : Int32) →
      rec x6 (upd p0_come v1.toNatClampNeg r5)))
def w_X10_find_L12 (p0_fieldSize : Int32) (p0_hasField : Int32) (p0_places : Int32) (p0_rowSize : Int32) (p0_field : Nat → Int32) (p0_order : Nat → Int32) (p0_row : Nat → Int32) (post : Int32 → (Nat → Int32) → Prop) (K : (Int32) → (Nat → Int32) → Prop) : Nat → (Int32) → (Nat → Int32) → Prop
  | 0, _, _ => False
  | n + 1, v1, p0_come => w_X10_find_L12b p0_fieldSize p0_hasField p0_places p0_rowSize p0_field p0_order p0_row post K (w_X10_find_L12 p0_fieldSize p0_hasField p0_places p0_rowSize p0_field p0_order p0_row post K n) v1 p0_come
def w_X10_find (p0_fieldSize : Int32) (p0_hasField : Int32) (p0_places : Int32) (p0_rowSize : Int32) (p0_come : Nat → Int32) (p0_field : Nat → Int32) (p0_order : Nat → Int32) (p0_row : Nat → Int32) (post : Int32 → (Nat → Int32) → Prop) : Prop :=
  (¬ p0_hasField = 0 →
    ∃ n : Nat, w_X10_find_L12 p0_fieldSize p0_hasField p0_places p0_rowSize p0_field p0_order p0_row post (fun v8 s9 =>
        w_X10_numberOf p0_fieldSize p0_places s9 p0_field p0_order (fun r10 =>
        (post r10 s9))) n (0 : Int32) p0_come) ∧
  (p0_hasField = 0 →
    (post (-2000000002 : Int32) p0_come))
set_option maxHeartbeats 4000000 in
set_option maxRecDepth 100000 in
theorem c_X10_find_L12 {p : Program} {l : Launch} {e : Env} {s : State} {m : MethodId} {args : Array Value} {below : List Frame} {meth : Method} {c : Code} {dC : Nat → ClassId} {dI : Nat → Nat → Nat} {A : Nat → Prop} {cI cJ cZ : ClassId} {h_p0 : Nat} {ad_p0 : Nat → Nat} {p0_places : Int32} {p0_steps : Int32} {p0_pastFirst : Int32} {p0_past : Int32} {p0_goings : Int32} {p0_rowSize : Int32} {p0_ways : Int32} {p0_hasField : Int32} {p0_fieldSize : Int32} {p0_faultNow : Int32} {p0_hasTree : Int32} {p0_treeSize : Int32} {p0_weightCount : Int32} {p0_roundCount : Int32} {p0_setCount : Int32} {p0_field : Nat → Int32} {p0_order : Nat → Int32} {p0_row : Nat → Int32} {z_p0_come : Nat → Int32} {post : Int32 → (Nat → Int32) → Prop} {K : (Int32) → (Nat → Int32) → Prop} (E0 : xEnv p s m args meth c cX10_find (some .int) 2 RX10 wsX10_find (dC, dI) cI cJ cZ A) (hk : ∀ (v1 : Int32) (p0_come : Nat → Int32) (H : Heap) (locs : List Loc) (ls : Array Slot), K v1 p0_come → va_P (dC, dI) vwCl (wld_X10_find cI cJ cZ h_p0 ad_p0 p0_places p0_steps p0_pastFirst p0_past p0_goings p0_rowSize p0_ways p0_hasField p0_fieldSize p0_faultNow p0_hasTree p0_treeSize p0_weightCount p0_roundCount p0_setCount p0_come p0_field p0_order p0_row) H → va_D A (wld_X10_find cI cJ cZ h_p0 ad_p0 p0_places p0_steps p0_pastFirst p0_past p0_goings p0_rowSize p0_ways p0_hasField p0_fieldSize p0_faultNow p0_hasTree p0_treeSize p0_weightCount p0_roundCount p0_setCount p0_come p0_field p0_order p0_row) → va_S A s.heap H locs → lv_has ls 2 [(0, .ref h_p0)] → W p l e ({ frames := 3, cells := 0, slots := 0, locals := 66 }) s m args below meth c H locs 0 0 (MQ below (q_X10_find dC dI cI cJ cZ h_p0 ad_p0 p0_places p0_steps p0_pastFirst p0_past p0_goings p0_rowSize p0_ways p0_hasField p0_fieldSize p0_faultNow p0_hasTree p0_treeSize p0_weightCount p0_roundCount p0_setCount z_p0_come p0_field p0_order p0_row post A) args s 0 0 A) (F0 m 37 ls [])) : ∀ (n : Nat) (v1 : Int32) (p0_come : Nat → Int32), w_X10_find_L12 p0_fieldSize p0_hasField p0_places p0_rowSize p0_field p0_order p0_row post K n v1 p0_come → ∀ (H : Heap) (locs : List Loc) (ls : Array Slot), va_P (dC, dI) vwCl (wld_X10_find cI cJ cZ h_p0 ad_p0 p0_places p0_steps p0_pastFirst p0_past p0_goings p0_rowSize p0_ways p0_hasField p0_fieldSize p0_faultNow p0_hasTree p0_treeSize p0_weightCount p0_roundCount p0_setCount p0_come p0_field p0_order p0_row) H → va_D A (wld_X10_find cI cJ cZ h_p0 ad_p0 p0_places p0_steps p0_pastFirst p0_past p0_goings p0_rowSize p0_ways p0_hasField p0_fieldSize p0_faultNow p0_hasTree p0_treeSize p0_weightCount p0_roundCount p0_setCount p0_come p0_field p0_order p0_row) → va_S A s.heap H locs → lv_has ls 2 [(0, .ref h_p0), (1, .int v1)] → W p l e ({ frames := 3, cells := 0, slots := 0, locals := 66 }) s m args below meth c H locs 0 0 (MQ below (q_X10_find dC dI cI cJ cZ h_p0 ad_p0 p0_places p0_steps p0_pastFirst p0_past p0_goings p0_rowSize p0_ways p0_hasField p0_fieldSize p0_faultNow p0_hasTree p0_treeSize p0_weightCount p0_roundCount p0_setCount z_p0_come p0_field p0_order p0_row post A) args s 0 0 A) (F0 m 12 ls []) := by
  obtain ⟨hx, hb, hr, hml, hown, hts, hlocks, hK, hA, n1, n2⟩ := id E0
  have iX10 : ∀ w ∈ u_ws RX10 TX10 50, w ∈ wsX10_find := fun w h => List.mem_cons_of_mem _ (List.mem_append_right _ h)
  intro n
  induction n with
  | zero => intro v1 p0_come hw; exact hw.elim
  | succ n ih =>
    intro v1 p0_come hw H locs ls hP hD hS hl
    have hw : w_X10_find_L12b p0_fieldSize p0_hasField p0_places p0_rowSize p0_field p0_order p0_row post K (w_X10_find_L12 p0_fieldSize p0_hasField p0_places p0_rowSize p0_field p0_order p0_row post K n) v1 p0_come := hw
    unfold w_X10_find_L12b at hw
    refine lv_iload_n hx hb dX10_find_12 rfl (lv_at hl 1 rfl) ?_
    refine lv_aload_n hx hb dX10_find_13 rfl (lv_at hl 0 rfl) ?_
    refine va_get (D := (dC, dI)) (ci := 10) (v := .int p0_places) (C := RX10) (T := TX10) (N := 50) hx hb hts iX10 hown hK hP 0 rfl rfl 0 (by decide) (hts (.fieldLink RX10 127 "NetHouseModel" "places" "I") (by decide +kernel)) (fun _ h9 => h9) rfl dX10_find_14 ?_
    refine lv_icmp_ge (tgt := 37) hx hb dX10_find_17 (by decide) (fun c3 => ?_) (fun c4 => ?_)
    · have hw := hw.1 c3
      exact hk _ _ _ _ _ hw hP hD hS (lv_sub hl [0] rfl)
    · have hw := hw.2 c4
      refine lv_aload_n hx hb dX10_find_20 rfl (lv_at hl 0 rfl) ?_
      refine va_get (D := (dC, dI)) (ci := 10) (v := .ref (ad_p0 31)) (C := RX10) (T := TX10) (N := 50) hx hb hts iX10 hown hK hP 0 rfl rfl 31 (by decide) (hts (.fieldLink RX10 78 "NetHouseModel" "come" "[I") (by decide +kernel)) (fun _ h9 => h9) rfl dX10_find_21 ?_
      refine lv_iload_n hx hb dX10_find_24 rfl (lv_at hl 1 rfl) ?_
      refine lv_aload_n hx hb dX10_find_25 rfl (lv_at hl 0 rfl) ?_
      refine lv_iload_n hx hb dX10_find_26 rfl (lv_at hl 1 rfl) ?_
      obtain ⟨hPc, hDc⟩ := x_sub (wc := (wld_X10_told cI cJ cZ h_p0 ad_p0 p0_places p0_steps p0_pastFirst p0_past p0_goings p0_rowSize p0_ways p0_hasField p0_fieldSize p0_faultNow p0_hasTree p0_treeSize p0_weightCount p0_roundCount p0_setCount p0_row)) hP hD [0, 4] (n := 5) rfl rfl (by decide +kernel)
      refine x_calli (ws' := fun (u : Unit) => (wld_X10_find cI cJ cZ h_p0 ad_p0 p0_places p0_steps p0_pastFirst p0_past p0_goings p0_rowSize p0_ways p0_hasField p0_fieldSize p0_faultNow p0_hasTree p0_treeSize p0_weightCount p0_roundCount p0_setCount p0_come p0_field p0_order p0_row)) hP hD hS hA [0, 4] [1, 2, 3] [3, 0, 1, 2, 4] (n := 5) (k := 2) rfl (fun _ => rfl) rfl (by decide +kernel) (fun _ => rfl) (va_runV (As := [.int v1]) (rest := [.int v1, .ref (ad_p0 31)]) ⟨hx, hb, hml, hown, hts⟩ (c_X10_told (l := l) (dC := dC) (dI := dI) (cI := cI) (cJ := cJ) (cZ := cZ) (sz := H.size) (h_p0 := h_p0) (ad_p0 := ad_p0) (p0_places := p0_places) (p0_steps := p0_steps) (p0_pastFirst := p0_pastFirst) (p0_past := p0_past) (p0_goings := p0_goings) (p0_rowSize := p0_rowSize) (p0_ways := p0_ways) (p0_hasField := p0_hasField) (p0_fieldSize := p0_fieldSize) (p0_faultNow := p0_faultNow) (p0_hasTree := p0_hasTree) (p0_treeSize := p0_treeSize) (p0_weightCount := p0_weightCount) (p0_roundCount := p0_roundCount) (p0_setCount := p0_setCount) (p0_row := p0_row) hw) (cwV 1 hts gX10_find_X10_told rfl rfl rfl (by decide +kernel) ⟨Nat.le_of_ble_eq_true rfl, Nat.le_of_ble_eq_true rfl⟩) ⟨xPre_blind, va_recv hK hP (ci := 10) (q0 := 0) rfl rfl, xPre_at hK hPc hDc n1 n2⟩ rfl rfl hl.1 rfl (lv_room (Nat.le_of_ble_eq_true rfl)) dX10_find_27 ⟨Nat.zero_le _, Nat.zero_le _⟩) (fun r5 u H locs hw hP hD hS => ?_)
      try dsimp only at hw
      have hP : va_P (dC, dI) vwCl (wld_X10_find cI cJ cZ h_p0 ad_p0 p0_places p0_steps p0_pastFirst p0_past p0_goings p0_rowSize p0_ways p0_hasField p0_fieldSize p0_faultNow p0_hasTree p0_treeSize p0_weightCount p0_roundCount p0_setCount p0_come p0_field p0_order p0_row) H := hP
      have hD : va_D A (wld_X10_find cI cJ cZ h_p0 ad_p0 p0_places p0_steps p0_pastFirst p0_past p0_goings p0_rowSize p0_ways p0_hasField p0_fieldSize p0_faultNow p0_hasTree p0_treeSize p0_weightCount p0_roundCount p0_setCount p0_come p0_field p0_order p0_row) := hD
      refine va_iast hx hb hK hP hD hS 1 0 rfl rfl hw.1 dX10_find_30 (fun H locs hP hD hS => ?_)
      have hw := hw.2
      have hP : va_P (dC, dI) vwCl (wld_X10_find cI cJ cZ h_p0 ad_p0 p0_places p0_steps p0_pastFirst p0_past p0_goings p0_rowSize p0_ways p0_hasField p0_fieldSize p0_faultNow p0_hasTree p0_treeSize p0_weightCount p0_roundCount p0_setCount (upd p0_come v1.toNatClampNeg r5) p0_field p0_order p0_row) H := hP
      have hD : va_D A (wld_X10_find cI cJ cZ h_p0 ad_p0 p0_places p0_steps p0_pastFirst p0_past p0_goings p0_rowSize p0_ways p0_hasField p0_fieldSize p0_faultNow p0_hasTree p0_treeSize p0_weightCount p0_roundCount p0_setCount (upd p0_come v1.toNatClampNeg r5) p0_field p0_order p0_row) := hD
      obtain ⟨x6, ex6⟩ : ∃ y : Int32, y = v1 + (1 : Int32) := ⟨_, rfl⟩
      have hw := hw x6 ex6
      refine lv_iinc (v := x6) (lv' := [(1, .int x6), (0, .ref h_p0)]) hx hb dX10_find_31 hl (k := 1) rfl (by rw [ex6]; rfl) (by decide) rfl (fun ls hl => ?_)
      refine lv_goto (tgt := 12) hx hb dX10_find_34 (by decide) ?_
      exact ih _ _ hw _ _ _ hP hD hS (lv_sub hl [1, 0] rfl)
set_option maxHeartbeats 4000000 in
set_option maxRecDepth 100000 in
theorem c_X10_find {l : Launch} {dC : Nat → ClassId} {dI : Nat → Nat → Nat} {sz : Nat} {cI cJ cZ : ClassId} {h_p0 : Nat} {ad_p0 : Nat → Nat} {p0_places : Int32} {p0_steps : Int32} {p0_pastFirst : Int32} {p0_past : Int32} {p0_goings : Int32} {p0_rowSize : Int32} {p0_ways : Int32} {p0_hasField : Int32} {p0_fieldSize : Int32} {p0_faultNow : Int32} {p0_hasTree : Int32} {p0_treeSize : Int32} {p0_weightCount : Int32} {p0_roundCount : Int32} {p0_setCount : Int32} {p0_come : Nat → Int32} {p0_field : Nat → Int32} {p0_order : Nat → Int32} {p0_row : Nat → Int32}  {post : Int32 → (Nat → Int32) → Prop} (hw : w_X10_find p0_fieldSize p0_hasField p0_places p0_rowSize p0_come p0_field p0_order p0_row post) : Met l yX10_find wsX10_find ({ frames := 3, cells := 0, slots := 0, locals := 66 }) (va_Pc [.ref h_p0] (xPre (dC, dI) cI cJ cZ (wld_X10_find cI cJ cZ h_p0 ad_p0 p0_places p0_steps p0_pastFirst p0_past p0_goings p0_rowSize p0_ways p0_hasField p0_fieldSize p0_faultNow p0_hasTree p0_treeSize p0_weightCount p0_roundCount p0_setCount p0_come p0_field p0_order p0_row) sz)) (q_X10_find dC dI cI cJ cZ h_p0 ad_p0 p0_places p0_steps p0_pastFirst p0_past p0_goings p0_rowSize p0_ways p0_hasField p0_fieldSize p0_faultNow p0_hasTree p0_treeSize p0_weightCount p0_roundCount p0_setCount p0_come p0_field p0_order p0_row post (va_A (wld_X10_find cI cJ cZ h_p0 ad_p0 p0_places p0_steps p0_pastFirst p0_past p0_goings p0_rowSize p0_ways p0_hasField p0_fieldSize p0_faultNow p0_hasTree p0_treeSize p0_weightCount p0_roundCount p0_setCount p0_come p0_field p0_order p0_row) sz)) 0 0 (va_A (wld_X10_find cI cJ cZ h_p0 ad_p0 p0_places p0_steps p0_pastFirst p0_past p0_goings p0_rowSize p0_ways p0_hasField p0_fieldSize p0_faultNow p0_hasTree p0_treeSize p0_weightCount p0_roundCount p0_setCount p0_come p0_field p0_order p0_row) sz) := by
  refine x_met (cc := cX10_find) (maxL := 2) (ret := (some .int)) (own := RX10) (Qc := fun A => (q_X10_find dC dI cI cJ cZ h_p0 ad_p0 p0_places p0_steps p0_pastFirst p0_past p0_goings p0_rowSize p0_ways p0_hasField p0_fieldSize p0_faultNow p0_hasTree p0_treeSize p0_weightCount p0_roundCount p0_setCount p0_come p0_field p0_order p0_row post A)) (by decide) rfl rfl (Nat.le_of_ble_eq_true rfl) ?_
  intro p e s m args below meth c A ls E0 hP hD hS hl
  obtain ⟨hx, hb, hr, hml, hown, hts, hlocks, hK, hA, n1, n2⟩ := id E0
  have iX10 : ∀ w ∈ u_ws RX10 TX10 50, w ∈ wsX10_find := fun w h => List.mem_cons_of_mem _ (List.mem_append_right _ h)
  have hS0 := hS
  have hl : lv_has ls 2 [(0, .ref h_p0)] := hl
  unfold w_X10_find at hw
  obtain ⟨H, hH⟩ : ∃ H, H = s.heap := ⟨_, rfl⟩
  have hS : va_S A s.heap H [] := by rw [hH]; exact hS
  have hP : va_P (dC, dI) vwCl (wld_X10_find cI cJ cZ h_p0 ad_p0 p0_places p0_steps p0_pastFirst p0_past p0_goings p0_rowSize p0_ways p0_hasField p0_fieldSize p0_faultNow p0_hasTree p0_treeSize p0_weightCount p0_roundCount p0_setCount p0_come p0_field p0_order p0_row) H := by rw [hH]; exact hP
  suffices hG : W p l e ({ frames := 3, cells := 0, slots := 0, locals := 66 }) s m args below meth c H [] 0 0 (MQ below (q_X10_find dC dI cI cJ cZ h_p0 ad_p0 p0_places p0_steps p0_pastFirst p0_past p0_goings p0_rowSize p0_ways p0_hasField p0_fieldSize p0_faultNow p0_hasTree p0_treeSize p0_weightCount p0_roundCount p0_setCount p0_come p0_field p0_order p0_row post A) args s 0 0 A) (F0 m 0 ls []) by rw [hH] at hG; exact hG
  clear hH
  refine lv_aload_n hx hb dX10_find_0 rfl (lv_at hl 0 rfl) ?_
  refine va_get (D := (dC, dI)) (ci := 10) (v := .int p0_hasField) (C := RX10) (T := TX10) (N := 50) hx hb hts iX10 hown hK hP 0 rfl rfl 24 (by decide) (hts (.fieldLink RX10 133 "NetHouseModel" "hasField" "Z") (by decide +kernel)) (fun _ h9 => h9) rfl dX10_find_1 ?_
  refine lv_if_ne (tgt := 10) hx hb dX10_find_4 (by decide) (fun c1 => ?_) (fun c2 => ?_)
  · have hw := hw.1 c1
    refine lv_iconst (v := 0) hx hb dX10_find_10 (by decide) ?_
    refine lv_istore_n (lv' := [(1, .int (0 : Int32)), (0, .ref h_p0)]) hx hb dX10_find_11 rfl hl (by decide) rfl (fun ls hl => ?_)
    obtain ⟨n7, hw⟩ := hw
    refine c_X10_find_L12 (l := l) (z_p0_come := p0_come) E0 ?_ n7 _ _ hw _ _ _ hP hD hS (lv_sub hl [1, 0] rfl)
    · intro v8 s9 H locs ls hw hP hD hS hl
      have hP : va_P (dC, dI) vwCl (wld_X10_find cI cJ cZ h_p0 ad_p0 p0_places p0_steps p0_pastFirst p0_past p0_goings p0_rowSize p0_ways p0_hasField p0_fieldSize p0_faultNow p0_hasTree p0_treeSize p0_weightCount p0_roundCount p0_setCount s9 p0_field p0_order p0_row) H := hP
      have hD : va_D A (wld_X10_find cI cJ cZ h_p0 ad_p0 p0_places p0_steps p0_pastFirst p0_past p0_goings p0_rowSize p0_ways p0_hasField p0_fieldSize p0_faultNow p0_hasTree p0_treeSize p0_weightCount p0_roundCount p0_setCount s9 p0_field p0_order p0_row) := hD
      refine lv_aload_n hx hb dX10_find_37 rfl (lv_at hl 0 rfl) ?_
      obtain ⟨hPc, hDc⟩ := x_sub (wc := (wld_X10_numberOf cI cJ cZ h_p0 ad_p0 p0_places p0_steps p0_pastFirst p0_past p0_goings p0_rowSize p0_ways p0_hasField p0_fieldSize p0_faultNow p0_hasTree p0_treeSize p0_weightCount p0_roundCount p0_setCount s9 p0_field p0_order)) hP hD [0, 1, 2, 3] (n := 5) rfl rfl (by decide +kernel)
      refine x_calli (ws' := fun (u : Unit) => (wld_X10_find cI cJ cZ h_p0 ad_p0 p0_places p0_steps p0_pastFirst p0_past p0_goings p0_rowSize p0_ways p0_hasField p0_fieldSize p0_faultNow p0_hasTree p0_treeSize p0_weightCount p0_roundCount p0_setCount s9 p0_field p0_order p0_row)) hP hD hS hA [0, 1, 2, 3] [4] [1, 2, 3, 4, 0] (n := 5) (k := 4) rfl (fun _ => rfl) rfl (by decide +kernel) (fun _ => rfl) (va_runV (As := []) (rest := []) ⟨hx, hb, hml, hown, hts⟩ (c_X10_numberOf (l := l) (dC := dC) (dI := dI) (cI := cI) (cJ := cJ) (cZ := cZ) (sz := H.size) (h_p0 := h_p0) (ad_p0 := ad_p0) (p0_places := p0_places) (p0_steps := p0_steps) (p0_pastFirst := p0_pastFirst) (p0_past := p0_past) (p0_goings := p0_goings) (p0_rowSize := p0_rowSize) (p0_ways := p0_ways) (p0_hasField := p0_hasField) (p0_fieldSize := p0_fieldSize) (p0_faultNow := p0_faultNow) (p0_hasTree := p0_hasTree) (p0_treeSize := p0_treeSize) (p0_weightCount := p0_weightCount) (p0_roundCount := p0_roundCount) (p0_setCount := p0_setCount) (p0_come := s9) (p0_field := p0_field) (p0_order := p0_order) hw) (cwV 0 hts gX10_find_X10_numberOf rfl rfl rfl (by decide +kernel) ⟨Nat.le_of_ble_eq_true rfl, Nat.le_of_ble_eq_true rfl⟩) ⟨xPre_blind, va_recv hK hP (ci := 10) (q0 := 0) rfl rfl, xPre_at hK hPc hDc n1 n2⟩ rfl rfl hl.1 rfl (lv_room (Nat.le_of_ble_eq_true rfl)) dX10_find_38 ⟨Nat.zero_le _, Nat.zero_le _⟩) (fun r10 u H locs hw hP hD hS => ?_)
      try dsimp only at hw
      have hP : va_P (dC, dI) vwCl (wld_X10_find cI cJ cZ h_p0 ad_p0 p0_places p0_steps p0_pastFirst p0_past p0_goings p0_rowSize p0_ways p0_hasField p0_fieldSize p0_faultNow p0_hasTree p0_treeSize p0_weightCount p0_roundCount p0_setCount s9 p0_field p0_order p0_row) H := hP
      have hD : va_D A (wld_X10_find cI cJ cZ h_p0 ad_p0 p0_places p0_steps p0_pastFirst p0_past p0_goings p0_rowSize p0_ways p0_hasField p0_fieldSize p0_faultNow p0_hasTree p0_treeSize p0_weightCount p0_roundCount p0_setCount s9 p0_field p0_order p0_row) := hD
      exact x_iret (w1 := fun (u : (Nat → Int32)) => (wld_X10_find cI cJ cZ h_p0 ad_p0 p0_places p0_steps p0_pastFirst p0_past p0_goings p0_rowSize p0_ways p0_hasField p0_fieldSize p0_faultNow p0_hasTree p0_treeSize p0_weightCount p0_roundCount p0_setCount u p0_field p0_order p0_row)) hx hb hr hlocks (s9) hw hP hD hS dX10_find_41
  · have hw := hw.2 c2
    refine lv_ldc (v := -2000000002) hx hb hown (hts (.constant RX10 171 (-2000000002)) (by decide +kernel)) dX10_find_7 ?_
    exact x_iret (w1 := fun (u : (Nat → Int32)) => (wld_X10_find cI cJ cZ h_p0 ad_p0 p0_places p0_steps p0_pastFirst p0_past p0_goings p0_rowSize p0_ways p0_hasField p0_fieldSize p0_faultNow p0_hasTree p0_treeSize p0_weightCount p0_roundCount p0_setCount u p0_field p0_order p0_row)) hx hb hr hlocks (p0_come) hw hP hD hS dX10_find_9
abbrev wld_X10_isDead (cI cJ cZ : ClassId) (h_p0 : Nat) (ad_p0 : Nat → Nat) (p0_places : Int32) (p0_steps : Int32) (p0_pastFirst : Int32) (p0_past : Int32) (p0_goings : Int32) (p0_rowSize : Int32) (p0_ways : Int32) (p0_hasField : Int32) (p0_fieldSize : Int32) (p0_faultNow : Int32) (p0_hasTree : Int32) (p0_treeSize : Int32) (p0_weightCount : Int32) (p0_roundCount : Int32) (p0_setCount : Int32) (p0_next : Nat → Int32) : va_W := [(h_p0, .inr (10, [.int p0_places, .int p0_steps, .ref (ad_p0 2), .ref (ad_p0 3), .ref (ad_p0 4), .ref (ad_p0 5), .ref (ad_p0 6), .ref (ad_p0 7), .ref (ad_p0 8), .ref (ad_p0 9), .ref (ad_p0 10), .ref (ad_p0 11), .ref (ad_p0 12), .ref (ad_p0 13), .ref (ad_p0 14), .int p0_pastFirst, .int p0_past, .int p0_goings, .int p0_rowSize, .ref (ad_p0 19), .ref (ad_p0 20), .int p0_ways, .ref (ad_p0 22), .ref (ad_p0 23), .int p0_hasField, .int p0_fieldSize, .ref (ad_p0 26), .ref (ad_p0 27), .ref (ad_p0 28), .ref (ad_p0 29), .ref (ad_p0 30), .ref (ad_p0 31), .ref (ad_p0 32), .int p0_faultNow, .int p0_hasTree, .int p0_treeSize, .ref (ad_p0 36), .ref (ad_p0 37), .ref (ad_p0 38), .ref (ad_p0 39), .ref (ad_p0 40), .ref (ad_p0 41), .ref (ad_p0 42), .int p0_weightCount, .ref (ad_p0 44), .int p0_roundCount, .ref (ad_p0 46), .int p0_setCount, .ref (ad_p0 48), .ref (ad_p0 49)])), ((ad_p0 30), .inl (cI, 128000, .inl p0_next))]
abbrev q_X10_isDead (dC : Nat → ClassId) (dI : Nat → Nat → Nat) (cI cJ cZ : ClassId) (h_p0 : Nat) (ad_p0 : Nat → Nat) (p0_places : Int32) (p0_steps : Int32) (p0_pastFirst : Int32) (p0_past : Int32) (p0_goings : Int32) (p0_rowSize : Int32) (p0_ways : Int32) (p0_hasField : Int32) (p0_fieldSize : Int32) (p0_faultNow : Int32) (p0_hasTree : Int32) (p0_treeSize : Int32) (p0_weightCount : Int32) (p0_roundCount : Int32) (p0_setCount : Int32) (p0_next : Nat → Int32) (post : Int32 → Prop) (A : Nat → Prop) : Array Value → State → Outcome → State → Prop := va_Qi (fun r (u : Unit) => post r ) (fun (u : Unit) t => xPost (dC, dI) A (wld_X10_isDead cI cJ cZ h_p0 ad_p0 p0_places p0_steps p0_pastFirst p0_past p0_goings p0_rowSize p0_ways p0_hasField p0_fieldSize p0_faultNow p0_hasTree p0_treeSize p0_weightCount p0_roundCount p0_setCount p0_next) t) A
def w_X10_isDead_L4b (v1 : Int32) (p0_steps : Int32) (p0_next : Nat → Int32) (post : Int32 → Prop) (K : (Int32) → (Int32) → Prop) (rec : (Int32) → (Int32) → Prop) (v2 : Int32) (v3 : Int32) : Prop :=
    (p0_steps ≤ v3 →
      K v2 v3) ∧
    (¬ p0_steps ≤ v3 →
      (v2 = 0 →
        ∀ x5 : Int32, x5 = v3 + (1 : Int32) →
        rec (0 : Int32) x5) ∧
      (¬ v2 = 0 →
        vp_in (((16 : Int32) * v1) + v3) 128000 ∧
        (¬ (p0_next (((16 : Int32) * v1) + v3).toNatClampNeg) = (-2000000005 : Int32) →
          ∀ x8 : Int32, x8 = v3 + (1 : Int32) →
          rec (0 : Int32) x8) ∧
        ((p0_next (((16 : Int32) * v1) + v3).toNatClampNeg) = (-2000000005 : Int32) →
          ∀ x9 : Int32, x9 = v3 + (1 : Int32) →
          rec (1 : Int32) x9)))
def w_X10_isDead_L4 (v1 : Int32) (p0_steps : Int32) (p0_next : Nat → Int32) (post : Int32 → Prop) (K : (Int32) → (Int32) → Prop) : Nat → (Int32) → (Int32) → Prop
  | 0, _, _ => False
  | n + 1, v2, v3 => w_X10_isDead_L4b v1 p0_steps p0_next post K (w_X10_isDead_L4 v1 p0_steps p0_next post K n) v2 v3
def w_X10_isDead (p0_steps : Int32) (p0_next : Nat → Int32) (a1 : Int32) (post : Int32 → Prop) : Prop :=
  ∃ n : Nat, w_X10_isDead_L4 a1 p0_steps p0_next post (fun v11 v12 =>
      v11 &&& 1 = v11 ∧
      (post v11)) n (1 : Int32) (0 : Int32)
set_option maxHeartbeats 4000000 in
set_option maxRecDepth 100000 in
theorem c_X10_isDead_L4 {p : Program} {l : Launch} {e : Env} {s : State} {m : MethodId} {args : Array Value} {below : List Frame} {meth : Method} {c : Code} {dC : Nat → ClassId} {dI : Nat → Nat → Nat} {A : Nat → Prop} {cI cJ cZ : ClassId} {h_p0 : Nat} {ad_p0 : Nat → Nat} {p0_places : Int32} {p0_steps : Int32} {p0_pastFirst : Int32} {p0_past : Int32} {p0_goings : Int32} {p0_rowSize : Int32} {p0_ways : Int32} {p0_hasField : Int32} {p0_fieldSize : Int32} {p0_faultNow : Int32} {p0_hasTree : Int32} {p0_treeSize : Int32} {p0_weightCount : Int32} {p0_roundCount : Int32} {p0_setCount : Int32} {p0_next : Nat → Int32} {v1 : Int32}  {post : Int32 → Prop} {K : (Int32) → (Int32) → Prop} (E0 : xEnv p s m args meth c cX10_isDead (some .boolean) 4 RX10 wsX10_isDead (dC, dI) cI cJ cZ A) (hk : ∀ (v2 : Int32) (v3 : Int32) (H : Heap) (locs : List Loc) (ls : Array Slot), K v2 v3 → va_P (dC, dI) vwCl (wld_X10_isDead cI cJ cZ h_p0 ad_p0 p0_places p0_steps p0_pastFirst p0_past p0_goings p0_rowSize p0_ways p0_hasField p0_fieldSize p0_faultNow p0_hasTree p0_treeSize p0_weightCount p0_roundCount p0_setCount p0_next) H → va_D A (wld_X10_isDead cI cJ cZ h_p0 ad_p0 p0_places p0_steps p0_pastFirst p0_past p0_goings p0_rowSize p0_ways p0_hasField p0_fieldSize p0_faultNow p0_hasTree p0_treeSize p0_weightCount p0_roundCount p0_setCount p0_next) → va_S A s.heap H locs → lv_has ls 4 [(2, .int v2)] → W p l e ({ frames := 0, cells := 0, slots := 0, locals := 0 }) s m args below meth c H locs 0 0 (MQ below (q_X10_isDead dC dI cI cJ cZ h_p0 ad_p0 p0_places p0_steps p0_pastFirst p0_past p0_goings p0_rowSize p0_ways p0_hasField p0_fieldSize p0_faultNow p0_hasTree p0_treeSize p0_weightCount p0_roundCount p0_setCount p0_next post A) args s 0 0 A) (F0 m 44 ls [])) : ∀ (n : Nat) (v2 : Int32) (v3 : Int32), w_X10_isDead_L4 v1 p0_steps p0_next post K n v2 v3 → ∀ (H : Heap) (locs : List Loc) (ls : Array Slot), va_P (dC, dI) vwCl (wld_X10_isDead cI cJ cZ h_p0 ad_p0 p0_places p0_steps p0_pastFirst p0_past p0_goings p0_rowSize p0_ways p0_hasField p0_fieldSize p0_faultNow p0_hasTree p0_treeSize p0_weightCount p0_roundCount p0_setCount p0_next) H → va_D A (wld_X10_isDead cI cJ cZ h_p0 ad_p0 p0_places p0_steps p0_pastFirst p0_past p0_goings p0_rowSize p0_ways p0_hasField p0_fieldSize p0_faultNow p0_hasTree p0_treeSize p0_weightCount p0_roundCount p0_setCount p0_next) → va_S A s.heap H locs → lv_has ls 4 [(0, .ref h_p0), (1, .int v1), (2, .int v2), (3, .int v3)] → W p l e ({ frames := 0, cells := 0, slots := 0, locals := 0 }) s m args below meth c H locs 0 0 (MQ below (q_X10_isDead dC dI cI cJ cZ h_p0 ad_p0 p0_places p0_steps p0_pastFirst p0_past p0_goings p0_rowSize p0_ways p0_hasField p0_fieldSize p0_faultNow p0_hasTree p0_treeSize p0_weightCount p0_roundCount p0_setCount p0_next post A) args s 0 0 A) (F0 m 4 ls []) := by
  obtain ⟨hx, hb, hr, hml, hown, hts, hlocks, hK, hA, n1, n2⟩ := id E0
  have iX10 : ∀ w ∈ u_ws RX10 TX10 50, w ∈ wsX10_isDead := fun w h => List.mem_cons_of_mem _ (List.mem_append_right _ h)
  intro n
  induction n with
  | zero => intro v2 v3 hw; exact hw.elim
  | succ n ih =>
    intro v2 v3 hw H locs ls hP hD hS hl
    have hw : w_X10_isDead_L4b v1 p0_steps p0_next post K (w_X10_isDead_L4 v1 p0_steps p0_next post K n) v2 v3 := hw
    unfold w_X10_isDead_L4b at hw
    refine lv_iload_n hx hb dX10_isDead_4 rfl (lv_at hl 3 rfl) ?_
    refine lv_aload_n hx hb dX10_isDead_5 rfl (lv_at hl 0 rfl) ?_
    refine va_get (D := (dC, dI)) (ci := 10) (v := .int p0_steps) (C := RX10) (T := TX10) (N := 50) hx hb hts iX10 hown hK hP 0 rfl rfl 1 (by decide) (hts (.fieldLink RX10 130 "NetHouseModel" "steps" "I") (by decide +kernel)) (fun _ h9 => h9) rfl dX10_isDead_6 ?_
    refine lv_icmp_ge (tgt := 44) hx hb dX10_isDead_9 (by decide) (fun c1 => ?_) (fun c2 => ?_)
    · have hw := hw.1 c1
      exact hk _ _ _ _ _ hw hP hD hS (lv_sub hl [2] rfl)
    · have hw := hw.2 c2
      refine lv_iload_n hx hb dX10_isDead_12 rfl (lv_at hl 2 rfl) ?_
      refine lv_if_eq (tgt := 36) hx hb dX10_isDead_13 (by decide) (fun c3 => ?_) (fun c4 => ?_)
      · have hw := hw.1 c3
        refine lv_iconst (v := 0) hx hb dX10_isDead_36 (by decide) ?_
        refine lv_istore_n (lv' := [(2, .int (0 : Int32)), (0, .ref h_p0), (1, .int v1), (3, .int v3)]) hx hb dX10_isDead_37 rfl hl (by decide) rfl (fun ls hl => ?_)
        obtain ⟨x5, ex5⟩ : ∃ y : Int32, y = v3 + (1 : Int32) := ⟨_, rfl⟩
        have hw := hw x5 ex5
        refine lv_iinc (v := x5) (lv' := [(3, .int x5), (2, .int (0 : Int32)), (0, .ref h_p0), (1, .int v1)]) hx hb dX10_isDead_38 hl (k := 3) rfl (by rw [ex5]; rfl) (by decide) rfl (fun ls hl => ?_)
        refine lv_goto (tgt := 4) hx hb dX10_isDead_41 (by decide) ?_
        exact ih _ _ hw _ _ _ hP hD hS (lv_sub hl [2, 3, 1, 0] rfl)
      · have hw := hw.2 c4
        refine lv_aload_n hx hb dX10_isDead_16 rfl (lv_at hl 0 rfl) ?_
        refine va_get (D := (dC, dI)) (ci := 10) (v := .ref (ad_p0 30)) (C := RX10) (T := TX10) (N := 50) hx hb hts iX10 hown hK hP 0 rfl rfl 30 (by decide) (hts (.fieldLink RX10 75 "NetHouseModel" "next" "[I") (by decide +kernel)) (fun _ h9 => h9) rfl dX10_isDead_17 ?_
        refine lv_bipush (v := 16) hx hb dX10_isDead_20 (by decide) ?_
        refine lv_iload_n hx hb dX10_isDead_22 rfl (lv_at hl 1 rfl) ?_
        refine lv_imul hx hb dX10_isDead_23 ?_
        refine lv_iload_n hx hb dX10_isDead_24 rfl (lv_at hl 3 rfl) ?_
        refine lv_iadd hx hb dX10_isDead_25 ?_
        refine va_iald hx hb hK hP 1 0 rfl rfl hw.1 dX10_isDead_26 ?_
        have hw := hw.2
        refine lv_ldc (v := -2000000005) hx hb hown (hts (.constant RX10 85 (-2000000005)) (by decide +kernel)) dX10_isDead_27 ?_
        refine lv_icmp_ne (tgt := 36) hx hb dX10_isDead_29 (by decide) (fun c6 => ?_) (fun c7 => ?_)
        · have hw := hw.1 c6
          refine lv_iconst (v := 0) hx hb dX10_isDead_36 (by decide) ?_
          refine lv_istore_n (lv' := [(2, .int (0 : Int32)), (0, .ref h_p0), (1, .int v1), (3, .int v3)]) hx hb dX10_isDead_37 rfl hl (by decide) rfl (fun ls hl => ?_)
          obtain ⟨x8, ex8⟩ : ∃ y : Int32, y = v3 + (1 : Int32) := ⟨_, rfl⟩
          have hw := hw x8 ex8
          refine lv_iinc (v := x8) (lv' := [(3, .int x8), (2, .int (0 : Int32)), (0, .ref h_p0), (1, .int v1)]) hx hb dX10_isDead_38 hl (k := 3) rfl (by rw [ex8]; rfl) (by decide) rfl (fun ls hl => ?_)
          refine lv_goto (tgt := 4) hx hb dX10_isDead_41 (by decide) ?_
          exact ih _ _ hw _ _ _ hP hD hS (lv_sub hl [2, 3, 1, 0] rfl)
        · have hw := hw.2 c7
          refine lv_iconst (v := 1) hx hb dX10_isDead_32 (by decide) ?_
          refine lv_goto (tgt := 37) hx hb dX10_isDead_33 (by decide) ?_
          refine lv_istore_n (lv' := [(2, .int (1 : Int32)), (0, .ref h_p0), (1, .int v1), (3, .int v3)]) hx hb dX10_isDead_37 rfl hl (by decide) rfl (fun ls hl => ?_)
          obtain ⟨x9, ex9⟩ : ∃ y : Int32, y = v3 + (1 : Int32) := ⟨_, rfl⟩
          have hw := hw x9 ex9
          refine lv_iinc (v := x9) (lv' := [(3, .int x9), (2, .int (1 : Int32)), (0, .ref h_p0), (1, .int v1)]) hx hb dX10_isDead_38 hl (k := 3) rfl (by rw [ex9]; rfl) (by decide) rfl (fun ls hl => ?_)
          refine lv_goto (tgt := 4) hx hb dX10_isDead_41 (by decide) ?_
          exact ih _ _ hw _ _ _ hP hD hS (lv_sub hl [2, 3, 1, 0] rfl)
set_option maxHeartbeats 4000000 in
set_option maxRecDepth 100000 in
theorem c_X10_isDead {l : Launch} {dC : Nat → ClassId} {dI : Nat → Nat → Nat} {sz : Nat} {cI cJ cZ : ClassId} {h_p0 : Nat} {ad_p0 : Nat → Nat} {p0_places : Int32} {p0_steps : Int32} {p0_pastFirst : Int32} {p0_past : Int32} {p0_goings : Int32} {p0_rowSize : Int32} {p0_ways : Int32} {p0_hasField : Int32} {p0_fieldSize : Int32} {p0_faultNow : Int32} {p0_hasTree : Int32} {p0_treeSize : Int32} {p0_weightCount : Int32} {p0_roundCount : Int32} {p0_setCount : Int32} {p0_next : Nat → Int32} {a1 : Int32} {post : Int32 → Prop} (hw : w_X10_isDead p0_steps p0_next a1 post) : Met l yX10_isDead wsX10_isDead ({ frames := 0, cells := 0, slots := 0, locals := 0 }) (va_Pc [.ref h_p0, .int a1] (xPre (dC, dI) cI cJ cZ (wld_X10_isDead cI cJ cZ h_p0 ad_p0 p0_places p0_steps p0_pastFirst p0_past p0_goings p0_rowSize p0_ways p0_hasField p0_fieldSize p0_faultNow p0_hasTree p0_treeSize p0_weightCount p0_roundCount p0_setCount p0_next) sz)) (q_X10_isDead dC dI cI cJ cZ h_p0 ad_p0 p0_places p0_steps p0_pastFirst p0_past p0_goings p0_rowSize p0_ways p0_hasField p0_fieldSize p0_faultNow p0_hasTree p0_treeSize p0_weightCount p0_roundCount p0_setCount p0_next post (va_A (wld_X10_isDead cI cJ cZ h_p0 ad_p0 p0_places p0_steps p0_pastFirst p0_past p0_goings p0_rowSize p0_ways p0_hasField p0_fieldSize p0_faultNow p0_hasTree p0_treeSize p0_weightCount p0_roundCount p0_setCount p0_next) sz)) 0 0 (va_A (wld_X10_isDead cI cJ cZ h_p0 ad_p0 p0_places p0_steps p0_pastFirst p0_past p0_goings p0_rowSize p0_ways p0_hasField p0_fieldSize p0_faultNow p0_hasTree p0_treeSize p0_weightCount p0_roundCount p0_setCount p0_next) sz) := by
  refine x_met (cc := cX10_isDead) (maxL := 4) (ret := (some .boolean)) (own := RX10) (Qc := fun A => (q_X10_isDead dC dI cI cJ cZ h_p0 ad_p0 p0_places p0_steps p0_pastFirst p0_past p0_goings p0_rowSize p0_ways p0_hasField p0_fieldSize p0_faultNow p0_hasTree p0_treeSize p0_weightCount p0_roundCount p0_setCount p0_next post A)) (by decide) rfl rfl (Nat.le_of_ble_eq_true rfl) ?_
  intro p e s m args below meth c A ls E0 hP hD hS hl
  obtain ⟨hx, hb, hr, hml, hown, hts, hlocks, hK, hA, n1, n2⟩ := id E0
  have iX10 : ∀ w ∈ u_ws RX10 TX10 50, w ∈ wsX10_isDead := fun w h => List.mem_cons_of_mem _ (List.mem_append_right _ h)
  have hS0 := hS
  have hl : lv_has ls 4 [(0, .ref h_p0), (1, .int a1)] := hl
  unfold w_X10_isDead at hw
  obtain ⟨H, hH⟩ : ∃ H, H = s.heap := ⟨_, rfl⟩
  have hS : va_S A s.heap H [] := by rw [hH]; exact hS
  have hP : va_P (dC, dI) vwCl (wld_X10_isDead cI cJ cZ h_p0 ad_p0 p0_places p0_steps p0_pastFirst p0_past p0_goings p0_rowSize p0_ways p0_hasField p0_fieldSize p0_faultNow p0_hasTree p0_treeSize p0_weightCount p0_roundCount p0_setCount p0_next) H := by rw [hH]; exact hP
  suffices hG : W p l e ({ frames := 0, cells := 0, slots := 0, locals := 0 }) s m args below meth c H [] 0 0 (MQ below (q_X10_isDead dC dI cI cJ cZ h_p0 ad_p0 p0_places p0_steps p0_pastFirst p0_past p0_goings p0_rowSize p0_ways p0_hasField p0_fieldSize p0_faultNow p0_hasTree p0_treeSize p0_weightCount p0_roundCount p0_setCount p0_next post A) args s 0 0 A) (F0 m 0 ls []) by rw [hH] at hG; exact hG
  clear hH
  refine lv_iconst (v := 1) hx hb dX10_isDead_0 (by decide) ?_
  refine lv_istore_n (lv' := [(2, .int (1 : Int32)), (0, .ref h_p0), (1, .int a1)]) hx hb dX10_isDead_1 rfl hl (by decide) rfl (fun ls hl => ?_)
  refine lv_iconst (v := 0) hx hb dX10_isDead_2 (by decide) ?_
  refine lv_istore_n (lv' := [(3, .int (0 : Int32)), (2, .int (1 : Int32)), (0, .ref h_p0), (1, .int a1)]) hx hb dX10_isDead_3 rfl hl (by decide) rfl (fun ls hl => ?_)
  obtain ⟨n10, hw⟩ := hw
  refine c_X10_isDead_L4 (l := l)  E0 ?_ n10 _ _ hw _ _ _ hP hD hS (lv_sub hl [2, 3, 1, 0] rfl)
  · intro v11 v12 H locs ls hw hP hD hS hl
    have hP : va_P (dC, dI) vwCl (wld_X10_isDead cI cJ cZ h_p0 ad_p0 p0_places p0_steps p0_pastFirst p0_past p0_goings p0_rowSize p0_ways p0_hasField p0_fieldSize p0_faultNow p0_hasTree p0_treeSize p0_weightCount p0_roundCount p0_setCount p0_next) H := hP
    have hD : va_D A (wld_X10_isDead cI cJ cZ h_p0 ad_p0 p0_places p0_steps p0_pastFirst p0_past p0_goings p0_rowSize p0_ways p0_hasField p0_fieldSize p0_faultNow p0_hasTree p0_treeSize p0_weightCount p0_roundCount p0_setCount p0_next) := hD
    refine lv_iload_n hx hb dX10_isDead_44 rfl (lv_at hl 0 rfl) ?_
    have hv := hw.1
    have hw := hw.2
    exact x_zret (w1 := fun (u : Unit) => (wld_X10_isDead cI cJ cZ h_p0 ad_p0 p0_places p0_steps p0_pastFirst p0_past p0_goings p0_rowSize p0_ways p0_hasField p0_fieldSize p0_faultNow p0_hasTree p0_treeSize p0_weightCount p0_roundCount p0_setCount p0_next)) hx hb hr hlocks hv () hw hP hD hS dX10_isDead_45
abbrev wld_X10_dead (cI cJ cZ : ClassId) (h_p0 : Nat) (ad_p0 : Nat → Nat) (p0_places : Int32) (p0_steps : Int32) (p0_pastFirst : Int32) (p0_past : Int32) (p0_goings : Int32) (p0_rowSize : Int32) (p0_ways : Int32) (p0_hasField : Int32) (p0_fieldSize : Int32) (p0_faultNow : Int32) (p0_hasTree : Int32) (p0_treeSize : Int32) (p0_weightCount : Int32) (p0_roundCount : Int32) (p0_setCount : Int32) (p0_next : Nat → Int32) : va_W := [(h_p0, .inr (10, [.int p0_places, .int p0_steps, .ref (ad_p0 2), .ref (ad_p0 3), .ref (ad_p0 4), .ref (ad_p0 5), .ref (ad_p0 6), .ref (ad_p0 7), .ref (ad_p0 8), .ref (ad_p0 9), .ref (ad_p0 10), .ref (ad_p0 11), .ref (ad_p0 12), .ref (ad_p0 13), .ref (ad_p0 14), .int p0_pastFirst, .int p0_past, .int p0_goings, .int p0_rowSize, .ref (ad_p0 19), .ref (ad_p0 20), .int p0_ways, .ref (ad_p0 22), .ref (ad_p0 23), .int p0_hasField, .int p0_fieldSize, .ref (ad_p0 26), .ref (ad_p0 27), .ref (ad_p0 28), .ref (ad_p0 29), .ref (ad_p0 30), .ref (ad_p0 31), .ref (ad_p0 32), .int p0_faultNow, .int p0_hasTree, .int p0_treeSize, .ref (ad_p0 36), .ref (ad_p0 37), .ref (ad_p0 38), .ref (ad_p0 39), .ref (ad_p0 40), .ref (ad_p0 41), .ref (ad_p0 42), .int p0_weightCount, .ref (ad_p0 44), .int p0_roundCount, .ref (ad_p0 46), .int p0_setCount, .ref (ad_p0 48), .ref (ad_p0 49)])), ((ad_p0 30), .inl (cI, 128000, .inl p0_next))]
abbrev q_X10_dead (dC : Nat → ClassId) (dI : Nat → Nat → Nat) (cI cJ cZ : ClassId) (h_p0 : Nat) (ad_p0 : Nat → Nat) (p0_places : Int32) (p0_steps : Int32) (p0_pastFirst : Int32) (p0_past : Int32) (p0_goings : Int32) (p0_rowSize : Int32) (p0_ways : Int32) (p0_hasField : Int32) (p0_fieldSize : Int32) (p0_faultNow : Int32) (p0_hasTree : Int32) (p0_treeSize : Int32) (p0_weightCount : Int32) (p0_roundCount : Int32) (p0_setCount : Int32) (p0_next : Nat → Int32) (post : Int32 → Prop) (A : Nat → Prop) : Array Value → State → Outcome → State → Prop := va_Qi (fun r (u : Unit) => post r ) (fun (u : Unit) t => xPost (dC, dI) A (wld_X10_dead cI cJ cZ h_p0 ad_p0 p0_places p0_steps p0_pastFirst p0_past p0_goings p0_rowSize p0_ways p0_hasField p0_fieldSize p0_faultNow p0_hasTree p0_treeSize p0_weightCount p0_roundCount p0_setCount p0_next) t) A
def w_X10_dead_L21b (v1 : Int32) (p0_fieldSize : Int32) (p0_hasField : Int32) (p0_steps : Int32) (p0_next : Nat → Int32) (post : Int32 → Prop) (K : (Int32) → (Int32) → Prop) (rec : (Int32) → (Int32) → Prop) (v2 : Int32) (v3 : Int32) : Prop :=
    (p0_fieldSize ≤ v3 →
      K v2 v3) ∧
    (¬ p0_fieldSize ≤ v3 →
      w_X10_isDead p0_steps p0_next v3 (fun r7 =>
      (r7 = 0 →
        ∀ x10 : Int32, x10 = v3 + (1 : Int32) →
        rec v2 x10) ∧
      (¬ r7 = 0 →
        (¬ v2 = v1 →
          ∀ x13 : Int32, x13 = v2 + (1 : Int32) →
          ∀ x14 : Int32, x14 = v3 + (1 : Int32) →
          rec x13 x14) ∧
        (v2 = v1 →
          (post v3)))))
def w_X10_dead_L21 (v1 : Int32) (p0_fieldSize : Int32) (p0_hasField : Int32) (p0_steps : Int32) (p0_next : Nat → Int32) (post : Int32 → Prop) (K : (Int32) → (Int32) → Prop) : Nat → (Int32) → (Int32) → Prop
  | 0, _, _ => False
  | n + 1, v2, v3 => w_X10_dead_L21b v1 p0_fieldSize p0_hasField p0_steps p0_next post K (w_X10_dead_L21 v1 p0_fieldSize p0_hasField p0_steps p0_next post K n) v2 v3
def w_X10_dead (p0_fieldSize : Int32) (p0_hasField : Int32) (p0_steps : Int32) (p0_next : Nat → Int32) (a1 : Int32) (post : Int32 → Prop) : Prop :=
  (0 ≤ a1 →
    (¬ p0_hasField = 0 →
      ∃ n : Nat, w_X10_dead_L21 a1 p0_fieldSize p0_hasField p0_steps p0_next post (fun v16 v17 =>
          (post (-2000000005 : Int32))) n (0 : Int32) (0 : Int32)) ∧
    (p0_hasField = 0 →
      (post (-2000000002 : Int32)))) ∧
  (¬ 0 ≤ a1 →
    (post (-2000000001 : Int32)))
set_option maxHeartbeats 4000000 in
set_option maxRecDepth 100000 in
theorem c_X10_dead_L21 {p : Program} {l : Launch} {e : Env} {s : State} {m : MethodId} {args : Array Value} {below : List Frame} {meth : Method} {c : Code} {dC : Nat → ClassId} {dI : Nat → Nat → Nat} {A : Nat → Prop} {cI cJ cZ : ClassId} {h_p0 : Nat} {ad_p0 : Nat → Nat} {p0_places : Int32} {p0_steps : Int32} {p0_pastFirst : Int32} {p0_past : Int32} {p0_goings : Int32} {p0_rowSize : Int32} {p0_ways : Int32} {p0_hasField : Int32} {p0_fieldSize : Int32} {p0_faultNow : Int32} {p0_hasTree : Int32} {p0_treeSize : Int32} {p0_weightCount : Int32} {p0_roundCount : Int32} {p0_setCount : Int32} {p0_next : Nat → Int32} {v1 : Int32}  {post : Int32 → Prop} {K : (Int32) → (Int32) → Prop} (E0 : xEnv p s m args meth c cX10_dead (some .int) 4 RX10 wsX10_dead (dC, dI) cI cJ cZ A) (hk : ∀ (v2 : Int32) (v3 : Int32) (H : Heap) (locs : List Loc) (ls : Array Slot), K v2 v3 → va_P (dC, dI) vwCl (wld_X10_dead cI cJ cZ h_p0 ad_p0 p0_places p0_steps p0_pastFirst p0_past p0_goings p0_rowSize p0_ways p0_hasField p0_fieldSize p0_faultNow p0_hasTree p0_treeSize p0_weightCount p0_roundCount p0_setCount p0_next) H → va_D A (wld_X10_dead cI cJ cZ h_p0 ad_p0 p0_places p0_steps p0_pastFirst p0_past p0_goings p0_rowSize p0_ways p0_hasField p0_fieldSize p0_faultNow p0_hasTree p0_treeSize p0_weightCount p0_roundCount p0_setCount p0_next) → va_S A s.heap H locs → lv_has ls 4 [] → W p l e ({ frames := 1, cells := 0, slots := 0, locals := 23 }) s m args below meth c H locs 0 0 (MQ below (q_X10_dead dC dI cI cJ cZ h_p0 ad_p0 p0_places p0_steps p0_pastFirst p0_past p0_goings p0_rowSize p0_ways p0_hasField p0_fieldSize p0_faultNow p0_hasTree p0_treeSize p0_weightCount p0_roundCount p0_setCount p0_next post A) args s 0 0 A) (F0 m 53 ls [])) : ∀ (n : Nat) (v2 : Int32) (v3 : Int32), w_X10_dead_L21 v1 p0_fieldSize p0_hasField p0_steps p0_next post K n v2 v3 → ∀ (H : Heap) (locs : List Loc) (ls : Array Slot), va_P (dC, dI) vwCl (wld_X10_dead cI cJ cZ h_p0 ad_p0 p0_places p0_steps p0_pastFirst p0_past p0_goings p0_rowSize p0_ways p0_hasField p0_fieldSize p0_faultNow p0_hasTree p0_treeSize p0_weightCount p0_roundCount p0_setCount p0_next) H → va_D A (wld_X10_dead cI cJ cZ h_p0 ad_p0 p0_places p0_steps p0_pastFirst p0_past p0_goings p0_rowSize p0_ways p0_hasField p0_fieldSize p0_faultNow p0_hasTree p0_treeSize p0_weightCount p0_roundCount p0_setCount p0_next) → va_S A s.heap H locs → lv_has ls 4 [(0, .ref h_p0), (1, .int v1), (2, .int v2), (3, .int v3)] → W p l e ({ frames := 1, cells := 0, slots := 0, locals := 23 }) s m args below meth c H locs 0 0 (MQ below (q_X10_dead dC dI cI cJ cZ h_p0 ad_p0 p0_places p0_steps p0_pastFirst p0_past p0_goings p0_rowSize p0_ways p0_hasField p0_fieldSize p0_faultNow p0_hasTree p0_treeSize p0_weightCount p0_roundCount p0_setCount p0_next post A) args s 0 0 A) (F0 m 21 ls []) := by
  obtain ⟨hx, hb, hr, hml, hown, hts, hlocks, hK, hA, n1, n2⟩ := id E0
  have iX10 : ∀ w ∈ u_ws RX10 TX10 50, w ∈ wsX10_dead := fun w h => List.mem_cons_of_mem _ (List.mem_append_right _ h)
  intro n
  induction n with
  | zero => intro v2 v3 hw; exact hw.elim
  | succ n ih =>
    intro v2 v3 hw H locs ls hP hD hS hl
    have hw : w_X10_dead_L21b v1 p0_fieldSize p0_hasField p0_steps p0_next post K (w_X10_dead_L21 v1 p0_fieldSize p0_hasField p0_steps p0_next post K n) v2 v3 := hw
    unfold w_X10_dead_L21b at hw
    refine lv_iload_n hx hb dX10_dead_21 rfl (lv_at hl 3 rfl) ?_
    refine lv_aload_n hx hb dX10_dead_22 rfl (lv_at hl 0 rfl) ?_
    refine va_get (D := (dC, dI)) (ci := 10) (v := .int p0_fieldSize) (C := RX10) (T := TX10) (N := 50) hx hb hts iX10 hown hK hP 0 rfl rfl 25 (by decide) (hts (.fieldLink RX10 124 "NetHouseModel" "fieldSize" "I") (by decide +kernel)) (fun _ h9 => h9) rfl dX10_dead_23 ?_
    refine lv_icmp_ge (tgt := 53) hx hb dX10_dead_26 (by decide) (fun c5 => ?_) (fun c6 => ?_)
    · have hw := hw.1 c5
      exact hk _ _ _ _ _ hw hP hD hS (lv_sub hl [] rfl)
    · have hw := hw.2 c6
      refine lv_aload_n hx hb dX10_dead_29 rfl (lv_at hl 0 rfl) ?_
      refine lv_iload_n hx hb dX10_dead_30 rfl (lv_at hl 3 rfl) ?_
      obtain ⟨hPc, hDc⟩ := x_sub (wc := (wld_X10_isDead cI cJ cZ h_p0 ad_p0 p0_places p0_steps p0_pastFirst p0_past p0_goings p0_rowSize p0_ways p0_hasField p0_fieldSize p0_faultNow p0_hasTree p0_treeSize p0_weightCount p0_roundCount p0_setCount p0_next)) hP hD [0, 1] (n := 2) rfl rfl (by decide +kernel)
      refine x_calli (ws' := fun (u : Unit) => (wld_X10_dead cI cJ cZ h_p0 ad_p0 p0_places p0_steps p0_pastFirst p0_past p0_goings p0_rowSize p0_ways p0_hasField p0_fieldSize p0_faultNow p0_hasTree p0_treeSize p0_weightCount p0_roundCount p0_setCount p0_next)) hP hD hS hA [0, 1] [] [0, 1] (n := 2) (k := 2) rfl (fun _ => rfl) rfl (by decide +kernel) (fun _ => rfl) (va_runV (As := [.int v3]) (rest := []) ⟨hx, hb, hml, hown, hts⟩ (c_X10_isDead (l := l) (dC := dC) (dI := dI) (cI := cI) (cJ := cJ) (cZ := cZ) (sz := H.size) (h_p0 := h_p0) (ad_p0 := ad_p0) (p0_places := p0_places) (p0_steps := p0_steps) (p0_pastFirst := p0_pastFirst) (p0_past := p0_past) (p0_goings := p0_goings) (p0_rowSize := p0_rowSize) (p0_ways := p0_ways) (p0_hasField := p0_hasField) (p0_fieldSize := p0_fieldSize) (p0_faultNow := p0_faultNow) (p0_hasTree := p0_hasTree) (p0_treeSize := p0_treeSize) (p0_weightCount := p0_weightCount) (p0_roundCount := p0_roundCount) (p0_setCount := p0_setCount) (p0_next := p0_next) hw) (cwV 1 hts gX10_dead_X10_isDead rfl rfl rfl (by decide +kernel) ⟨Nat.le_of_ble_eq_true rfl, Nat.le_of_ble_eq_true rfl⟩) ⟨xPre_blind, va_recv hK hP (ci := 10) (q0 := 0) rfl rfl, xPre_at hK hPc hDc n1 n2⟩ rfl rfl hl.1 rfl (lv_room (Nat.le_of_ble_eq_true rfl)) dX10_dead_31 ⟨Nat.zero_le _, Nat.zero_le _⟩) (fun r7 u H locs hw hP hD hS => ?_)
      try dsimp only at hw
      have hP : va_P (dC, dI) vwCl (wld_X10_dead cI cJ cZ h_p0 ad_p0 p0_places p0_steps p0_pastFirst p0_past p0_goings p0_rowSize p0_ways p0_hasField p0_fieldSize p0_faultNow p0_hasTree p0_treeSize p0_weightCount p0_roundCount p0_setCount p0_next) H := hP
      have hD : va_D A (wld_X10_dead cI cJ cZ h_p0 ad_p0 p0_places p0_steps p0_pastFirst p0_past p0_goings p0_rowSize p0_ways p0_hasField p0_fieldSize p0_faultNow p0_hasTree p0_treeSize p0_weightCount p0_roundCount p0_setCount p0_next) := hD
      refine lv_if_eq (tgt := 47) hx hb dX10_dead_34 (by decide) (fun c8 => ?_) (fun c9 => ?_)
      · have hw := hw.1 c8
        obtain ⟨x10, ex10⟩ : ∃ y : Int32, y = v3 + (1 : Int32) := ⟨_, rfl⟩
        have hw := hw x10 ex10
        refine lv_iinc (v := x10) (lv' := [(3, .int x10), (0, .ref h_p0), (1, .int v1), (2, .int v2)]) hx hb dX10_dead_47 hl (k := 3) rfl (by rw [ex10]; rfl) (by decide) rfl (fun ls hl => ?_)
        refine lv_goto (tgt := 21) hx hb dX10_dead_50 (by decide) ?_
        exact ih _ _ hw _ _ _ hP hD hS (lv_sub hl [1, 2, 3, 0] rfl)
      · have hw := hw.2 c9
        refine lv_iload_n hx hb dX10_dead_37 rfl (lv_at hl 2 rfl) ?_
        refine lv_iload_n hx hb dX10_dead_38 rfl (lv_at hl 1 rfl) ?_
        refine lv_icmp_ne (tgt := 44) hx hb dX10_dead_39 (by decide) (fun c11 => ?_) (fun c12 => ?_)
        · have hw := hw.1 c11
          obtain ⟨x13, ex13⟩ : ∃ y : Int32, y = v2 + (1 : Int32) := ⟨_, rfl⟩
          have hw := hw x13 ex13
          refine lv_iinc (v := x13) (lv' := [(2, .int x13), (0, .ref h_p0), (1, .int v1), (3, .int v3)]) hx hb dX10_dead_44 hl (k := 2) rfl (by rw [ex13]; rfl) (by decide) rfl (fun ls hl => ?_)
          obtain ⟨x14, ex14⟩ : ∃ y : Int32, y = v3 + (1 : Int32) := ⟨_, rfl⟩
          have hw := hw x14 ex14
          refine lv_iinc (v := x14) (lv' := [(3, .int x14), (2, .int x13), (0, .ref h_p0), (1, .int v1)]) hx hb dX10_dead_47 hl (k := 3) rfl (by rw [ex14]; rfl) (by decide) rfl (fun ls hl => ?_)
          refine lv_goto (tgt := 21) hx hb dX10_dead_50 (by decide) ?_
          exact ih _ _ hw _ _ _ hP hD hS (lv_sub hl [2, 3, 1, 0] rfl)
        · have hw := hw.2 c12
          refine lv_iload_n hx hb dX10_dead_42 rfl (lv_at hl 3 rfl) ?_
          exact x_iret (w1 := fun (u : Unit) => (wld_X10_dead cI cJ cZ h_p0 ad_p0 p0_places p0_steps p0_pastFirst p0_past p0_goings p0_rowSize p0_ways p0_hasField p0_fieldSize p0_faultNow p0_hasTree p0_treeSize p0_weightCount p0_roundCount p0_setCount p0_next)) hx hb hr hlocks () hw hP hD hS dX10_dead_43
set_option maxHeartbeats 4000000 in
set_option maxRecDepth 100000 in
theorem c_X10_dead {l : Launch} {dC : Nat → ClassId} {dI : Nat → Nat → Nat} {sz : Nat} {cI cJ cZ : ClassId} {h_p0 : Nat} {ad_p0 : Nat → Nat} {p0_places : Int32} {p0_steps : Int32} {p0_pastFirst : Int32} {p0_past : Int32} {p0_goings : Int32} {p0_rowSize : Int32} {p0_ways : Int32} {p0_hasField : Int32} {p0_fieldSize : Int32} {p0_faultNow : Int32} {p0_hasTree : Int32} {p0_treeSize : Int32} {p0_weightCount : Int32} {p0_roundCount : Int32} {p0_setCount : Int32} {p0_next : Nat → Int32} {a1 : Int32} {post : Int32 → Prop} (hw : w_X10_dead p0_fieldSize p0_hasField p0_steps p0_next a1 post) : Met l yX10_dead wsX10_dead ({ frames := 1, cells := 0, slots := 0, locals := 23 }) (va_Pc [.ref h_p0, .int a1] (xPre (dC, dI) cI cJ cZ (wld_X10_dead cI cJ cZ h_p0 ad_p0 p0_places p0_steps p0_pastFirst p0_past p0_goings p0_rowSize p0_ways p0_hasField p0_fieldSize p0_faultNow p0_hasTree p0_treeSize p0_weightCount p0_roundCount p0_setCount p0_next) sz)) (q_X10_dead dC dI cI cJ cZ h_p0 ad_p0 p0_places p0_steps p0_pastFirst p0_past p0_goings p0_rowSize p0_ways p0_hasField p0_fieldSize p0_faultNow p0_hasTree p0_treeSize p0_weightCount p0_roundCount p0_setCount p0_next post (va_A (wld_X10_dead cI cJ cZ h_p0 ad_p0 p0_places p0_steps p0_pastFirst p0_past p0_goings p0_rowSize p0_ways p0_hasField p0_fieldSize p0_faultNow p0_hasTree p0_treeSize p0_weightCount p0_roundCount p0_setCount p0_next) sz)) 0 0 (va_A (wld_X10_dead cI cJ cZ h_p0 ad_p0 p0_places p0_steps p0_pastFirst p0_past p0_goings p0_rowSize p0_ways p0_hasField p0_fieldSize p0_faultNow p0_hasTree p0_treeSize p0_weightCount p0_roundCount p0_setCount p0_next) sz) := by
  refine x_met (cc := cX10_dead) (maxL := 4) (ret := (some .int)) (own := RX10) (Qc := fun A => (q_X10_dead dC dI cI cJ cZ h_p0 ad_p0 p0_places p0_steps p0_pastFirst p0_past p0_goings p0_rowSize p0_ways p0_hasField p0_fieldSize p0_faultNow p0_hasTree p0_treeSize p0_weightCount p0_roundCount p0_setCount p0_next post A)) (by decide) rfl rfl (Nat.le_of_ble_eq_true rfl) ?_
  intro p e s m args below meth c A ls E0 hP hD hS hl
  obtain ⟨hx, hb, hr, hml, hown, hts, hlocks, hK, hA, n1, n2⟩ := id E0
  have iX10 : ∀ w ∈ u_ws RX10 TX10 50, w ∈ wsX10_dead := fun w h => List.mem_cons_of_mem _ (List.mem_append_right _ h)
  have hS0 := hS
  have hl : lv_has ls 4 [(0, .ref h_p0), (1, .int a1)] := hl
  unfold w_X10_dead at hw
  obtain ⟨H, hH⟩ : ∃ H, H = s.heap := ⟨_, rfl⟩
  have hS : va_S A s.heap H [] := by rw [hH]; exact hS
  have hP : va_P (dC, dI) vwCl (wld_X10_dead cI cJ cZ h_p0 ad_p0 p0_places p0_steps p0_pastFirst p0_past p0_goings p0_rowSize p0_ways p0_hasField p0_fieldSize p0_faultNow p0_hasTree p0_treeSize p0_weightCount p0_roundCount p0_setCount p0_next) H := by rw [hH]; exact hP
  suffices hG : W p l e ({ frames := 1, cells := 0, slots := 0, locals := 23 }) s m args below meth c H [] 0 0 (MQ below (q_X10_dead dC dI cI cJ cZ h_p0 ad_p0 p0_places p0_steps p0_pastFirst p0_past p0_goings p0_rowSize p0_ways p0_hasField p0_fieldSize p0_faultNow p0_hasTree p0_treeSize p0_weightCount p0_roundCount p0_setCount p0_next post A) args s 0 0 A) (F0 m 0 ls []) by rw [hH] at hG; exact hG
  clear hH
  refine lv_iload_n hx hb dX10_dead_0 rfl (lv_at hl 1 rfl) ?_
  refine lv_if_ge (tgt := 7) hx hb dX10_dead_1 (by decide) (fun c1 => ?_) (fun c2 => ?_)
  · have hw := hw.1 c1
    refine lv_aload_n hx hb dX10_dead_7 rfl (lv_at hl 0 rfl) ?_
    refine va_get (D := (dC, dI)) (ci := 10) (v := .int p0_hasField) (C := RX10) (T := TX10) (N := 50) hx hb hts iX10 hown hK hP 0 rfl rfl 24 (by decide) (hts (.fieldLink RX10 133 "NetHouseModel" "hasField" "Z") (by decide +kernel)) (fun _ h9 => h9) rfl dX10_dead_8 ?_
    refine lv_if_ne (tgt := 17) hx hb dX10_dead_11 (by decide) (fun c3 => ?_) (fun c4 => ?_)
    · have hw := hw.1 c3
      refine lv_iconst (v := 0) hx hb dX10_dead_17 (by decide) ?_
      refine lv_istore_n (lv' := [(2, .int (0 : Int32)), (0, .ref h_p0), (1, .int a1)]) hx hb dX10_dead_18 rfl hl (by decide) rfl (fun ls hl => ?_)
      refine lv_iconst (v := 0) hx hb dX10_dead_19 (by decide) ?_
      refine lv_istore_n (lv' := [(3, .int (0 : Int32)), (2, .int (0 : Int32)), (0, .ref h_p0), (1, .int a1)]) hx hb dX10_dead_20 rfl hl (by decide) rfl (fun ls hl => ?_)
      obtain ⟨n15, hw⟩ := hw
      refine c_X10_dead_L21 (l := l)  E0 ?_ n15 _ _ hw _ _ _ hP hD hS (lv_sub hl [2, 3, 1, 0] rfl)
      · intro v16 v17 H locs ls hw hP hD hS hl
        have hP : va_P (dC, dI) vwCl (wld_X10_dead cI cJ cZ h_p0 ad_p0 p0_places p0_steps p0_pastFirst p0_past p0_goings p0_rowSize p0_ways p0_hasField p0_fieldSize p0_faultNow p0_hasTree p0_treeSize p0_weightCount p0_roundCount p0_setCount p0_next) H := hP
        have hD : va_D A (wld_X10_dead cI cJ cZ h_p0 ad_p0 p0_places p0_steps p0_pastFirst p0_past p0_goings p0_rowSize p0_ways p0_hasField p0_fieldSize p0_faultNow p0_hasTree p0_treeSize p0_weightCount p0_roundCount p0_setCount p0_next) := hD
        refine lv_ldc (v := -2000000005) hx hb hown (hts (.constant RX10 85 (-2000000005)) (by decide +kernel)) dX10_dead_53 ?_
        exact x_iret (w1 := fun (u : Unit) => (wld_X10_dead cI cJ cZ h_p0 ad_p0 p0_places p0_steps p0_pastFirst p0_past p0_goings p0_rowSize p0_ways p0_hasField p0_fieldSize p0_faultNow p0_hasTree p0_treeSize p0_weightCount p0_roundCount p0_setCount p0_next)) hx hb hr hlocks () hw hP hD hS dX10_dead_55
    · have hw := hw.2 c4
      refine lv_ldc (v := -2000000002) hx hb hown (hts (.constant RX10 171 (-2000000002)) (by decide +kernel)) dX10_dead_14 ?_
      exact x_iret (w1 := fun (u : Unit) => (wld_X10_dead cI cJ cZ h_p0 ad_p0 p0_places p0_steps p0_pastFirst p0_past p0_goings p0_rowSize p0_ways p0_hasField p0_fieldSize p0_faultNow p0_hasTree p0_treeSize p0_weightCount p0_roundCount p0_setCount p0_next)) hx hb hr hlocks () hw hP hD hS dX10_dead_16
  · have hw := hw.2 c2
    refine lv_ldc (v := -2000000001) hx hb hown (hts (.constant RX10 159 (-2000000001)) (by decide +kernel)) dX10_dead_4 ?_
    exact x_iret (w1 := fun (u : Unit) => (wld_X10_dead cI cJ cZ h_p0 ad_p0 p0_places p0_steps p0_pastFirst p0_past p0_goings p0_rowSize p0_ways p0_hasField p0_fieldSize p0_faultNow p0_hasTree p0_treeSize p0_weightCount p0_roundCount p0_setCount p0_next)) hx hb hr hlocks () hw hP hD hS dX10_dead_6
abbrev wld_X10_spread (cI cJ cZ : ClassId) (h_p0 : Nat) (ad_p0 : Nat → Nat) (p0_places : Int32) (p0_steps : Int32) (p0_pastFirst : Int32) (p0_past : Int32) (p0_goings : Int32) (p0_rowSize : Int32) (p0_ways : Int32) (p0_hasField : Int32) (p0_fieldSize : Int32) (p0_faultNow : Int32) (p0_hasTree : Int32) (p0_treeSize : Int32) (p0_weightCount : Int32) (p0_roundCount : Int32) (p0_setCount : Int32) (p0_leads : Nat → Int32) (p0_next : Nat → Int32) : va_W := [(h_p0, .inr (10, [.int p0_places, .int p0_steps, .ref (ad_p0 2), .ref (ad_p0 3), .ref (ad_p0 4), .ref (ad_p0 5), .ref (ad_p0 6), .ref (ad_p0 7), .ref (ad_p0 8), .ref (ad_p0 9), .ref (ad_p0 10), .ref (ad_p0 11), .ref (ad_p0 12), .ref (ad_p0 13), .ref (ad_p0 14), .int p0_pastFirst, .int p0_past, .int p0_goings, .int p0_rowSize, .ref (ad_p0 19), .ref (ad_p0 20), .int p0_ways, .ref (ad_p0 22), .ref (ad_p0 23), .int p0_hasField, .int p0_fieldSize, .ref (ad_p0 26), .ref (ad_p0 27), .ref (ad_p0 28), .ref (ad_p0 29), .ref (ad_p0 30), .ref (ad_p0 31), .ref (ad_p0 32), .int p0_faultNow, .int p0_hasTree, .int p0_treeSize, .ref (ad_p0 36), .ref (ad_p0 37), .ref (ad_p0 38), .ref (ad_p0 39), .ref (ad_p0 40), .ref (ad_p0 41), .ref (ad_p0 42), .int p0_weightCount, .ref (ad_p0 44), .int p0_roundCount, .ref (ad_p0 46), .int p0_setCount, .ref (ad_p0 48), .ref (ad_p0 49)])), ((ad_p0 32), .inl (cZ, 8000, .inl p0_leads)), ((ad_p0 30), .inl (cI, 128000, .inl p0_next))]
abbrev q_X10_spread (dC : Nat → ClassId) (dI : Nat → Nat → Nat) (cI cJ cZ : ClassId) (h_p0 : Nat) (ad_p0 : Nat → Nat) (p0_places : Int32) (p0_steps : Int32) (p0_pastFirst : Int32) (p0_past : Int32) (p0_goings : Int32) (p0_rowSize : Int32) (p0_ways : Int32) (p0_hasField : Int32) (p0_fieldSize : Int32) (p0_faultNow : Int32) (p0_hasTree : Int32) (p0_treeSize : Int32) (p0_weightCount : Int32) (p0_roundCount : Int32) (p0_setCount : Int32) (p0_leads : Nat → Int32) (p0_next : Nat → Int32) (post : (Nat → Int32) → Prop) (A : Nat → Prop) : Array Value → State → Outcome → State → Prop := va_Qv (fun (u : (Nat → Int32)) => post u) (fun (u : (Nat → Int32)) t => xPost (dC, dI) A (wld_X10_spread cI cJ cZ h_p0 ad_p0 p0_places p0_steps p0_pastFirst p0_past p0_goings p0_rowSize p0_ways p0_hasField p0_fieldSize p0_faultNow p0_hasTree p0_treeSize p0_weightCount p0_roundCount p0_setCount u p0_next) t) A
def w_X10_spread_L21b (v2 : Int32) (p0_fieldSize : Int32) (p0_steps : Int32) (p0_next : Nat → Int32) (post : (Nat → Int32) → Prop) (K : (Int32) → (Int32) → (Nat → Int32) → Prop) (rec : (Int32) → (Int32) → (Nat → Int32) → Prop) (v1 : Int32) (v3 : Int32) (p0_leads : Nat → Int32) : Prop :=
    (p0_steps ≤ v3 →
      K v1 v3 p0_leads) ∧
    (¬ p0_steps ≤ v3 →
      vp_in v2 8000 ∧
      (¬ (p0_leads v2.toNatClampNeg) = 0 →
        K v1 v3 p0_leads) ∧
      ((p0_leads v2.toNatClampNeg) = 0 →
        vp_in (((16 : Int32) * v2) + v3) 128000 ∧
        ∀ x10 : Int32, x10 = (p0_next (((16 : Int32) * v2) + v3).toNatClampNeg) →
        (x10 = (-2000000005 : Int32) →
          ∀ x13 : Int32, x13 = v3 + (1 : Int32) →
          rec v1 x13 p0_leads) ∧
        (¬ x10 = (-2000000005 : Int32) →
          vp_in x10 8000 ∧
          ((p0_leads x10.toNatClampNeg) = 0 →
            ∀ x16 : Int32, x16 = v3 + (1 : Int32) →
            rec v1 x16 p0_leads) ∧
          (¬ (p0_leads x10.toNatClampNeg) = 0 →
            vp_in v2 8000 ∧
            ∀ x17 : Int32, x17 = v3 + (1 : Int32) →
            rec (1 : Int32) x17 (upd p0_leads v2.toNatClampNeg (vp_nar .boolean (1 : Int32)))))))
def w_X10_spread_L21 (v2 : Int32) (p0_fieldSize : Int32) (p0_steps : Int32) (p0_next : Nat → Int32) (post : (Nat → Int32) → Prop) (K : (Int32) → (Int32) → (Nat → Int32) → Prop) : Nat → (Int32) → (Int32) → (Nat → Int32) → Prop
  | 0, _, _, _ => False
  | n + 1, v1, v3, p0_leads => w_X10_spread_L21b v2 p0_fieldSize p0_steps p0_next post K (w_X10_spread_L21 v2 p0_fieldSize p0_steps p0_next post K n) v1 v3 p0_leads
def w_X10_spread_L15b (p0_fieldSize : Int32) (p0_steps : Int32) (p0_next : Nat → Int32) (post : (Nat → Int32) → Prop) (K : (Int32) → (Int32) → (Nat → Int32) → Prop) (rec : (Int32) → (Int32) → (Nat → Int32) → Prop) (v1 : Int32) (v2 : Int32) (p0_leads : Nat → Int32) : Prop :=
    (v2 < 0 →
      K v1 v2 p0_leads) ∧
    (¬ v2 < 0 →
      ∃ n : Nat, w_X10_spread_L21 v2 p0_fieldSize p0_steps p0_next post (fun v19 v20 s21 =>
          ∀ x22 : Int32, x22 = v2 + (-1 : Int32) →
          rec v19 x22 s21) n v1 (0 : Int32) p0_leads)
def w_X10_spread_L15 (p0_fieldSize : Int32) (p0_steps : Int32) (p0_next : Nat → Int32) (post : (Nat → Int32) → Prop) (K : (Int32) → (Int32) → (Nat → Int32) → Prop) : Nat → (Int32) → (Int32) → (Nat → Int32) → Prop
  | 0, _, _, _ => False
  | n + 1, v1, v2, p0_leads => w_X10_spread_L15b p0_fieldSize p0_steps p0_next post K (w_X10_spread_L15 p0_fieldSize p0_steps p0_next post K n) v1 v2 p0_leads
def w_X10_spread_L2b (p0_fieldSize : Int32) (p0_steps : Int32) (p0_next : Nat → Int32) (post : (Nat → Int32) → Prop) (K : (Int32) → (Nat → Int32) → Prop) (rec : (Int32) → (Nat → Int32) → Prop) (v1 : Int32) (p0_leads : Nat → Int32) : Prop :=
    (v1 = 0 →
      K v1 p0_leads) ∧
    (¬ v1 = 0 →
      ∀ x3 : Int32, x3 = (p0_fieldSize - (1 : Int32)) →
      ∃ n : Nat, w_X10_spread_L15 p0_fieldSize p0_steps p0_next post (fun v24 v25 s26 =>
          rec v24 s26) n (0 : Int32) x3 p0_leads)
def w_X10_spread_L2 (p0_fieldSize : Int32) (p0_steps : Int32) (p0_next : Nat → Int32) (post : (Nat → Int32) → Prop) (K : (Int32) → (Nat → Int32) → Prop) : Nat → (Int32) → (Nat → Int32) → Prop
  | 0, _, _ => False
  | n + 1, v1, p0_leads => w_X10_spread_L2b p0_fieldSize p0_steps p0_next post K (w_X10_spread_L2 p0_fieldSize p0_steps p0_next post K n) v1 p0_leads
def w_X10_spread (p0_fieldSize : Int32) (p0_steps : Int32) (p0_leads : Nat → Int32) (p0_next : Nat → Int32) (post : (Nat → Int32) → Prop) : Prop :=
  ∃ n : Nat, w_X10_spread_L2 p0_fieldSize p0_steps p0_next post (fun v28 s29 =>
      (post s29)) n (1 : Int32) p0_leads
set_option maxHeartbeats 4000000 in
set_option maxRecDepth 100000 in
theorem c_X10_spread_L21 {p : Program} {l : Launch} {e : Env} {s : State} {m : MethodId} {args : Array Value} {below : List Frame} {meth : Method} {c : Code} {dC : Nat → ClassId} {dI : Nat → Nat → Nat} {A : Nat → Prop} {cI cJ cZ : ClassId} {h_p0 : Nat} {ad_p0 : Nat → Nat} {p0_places : Int32} {p0_steps : Int32} {p0_pastFirst : Int32} {p0_past : Int32} {p0_goings : Int32} {p0_rowSize : Int32} {p0_ways : Int32} {p0_hasField : Int32} {p0_fieldSize : Int32} {p0_faultNow : Int32} {p0_hasTree : Int32} {p0_treeSize : Int32} {p0_weightCount : Int32} {p0_roundCount : Int32} {p0_setCount : Int32} {p0_next : Nat → Int32} {v2 : Int32} {z_p0_leads : Nat → Int32} {post : (Nat → Int32) → Prop} {K : (Int32) → (Int32) → (Nat → Int32) → Prop} (E0 : xEnv p s m args meth c cX10_spread none 5 RX10 wsX10_spread (dC, dI) cI cJ cZ A) (hk : ∀ (v1 : Int32) (v3 : Int32) (p0_leads : Nat → Int32) (H : Heap) (locs : List Loc) (ls : Array Slot), K v1 v3 p0_leads → va_P (dC, dI) vwCl (wld_X10_spread cI cJ cZ h_p0 ad_p0 p0_places p0_steps p0_pastFirst p0_past p0_goings p0_rowSize p0_ways p0_hasField p0_fieldSize p0_faultNow p0_hasTree p0_treeSize p0_weightCount p0_roundCount p0_setCount p0_leads p0_next) H → va_D A (wld_X10_spread cI cJ cZ h_p0 ad_p0 p0_places p0_steps p0_pastFirst p0_past p0_goings p0_rowSize p0_ways p0_hasField p0_fieldSize p0_faultNow p0_hasTree p0_treeSize p0_weightCount p0_roundCount p0_setCount p0_leads p0_next) → va_S A s.heap H locs → lv_has ls 5 [(0, .ref h_p0), (1, .int v1), (2, .int v2)] → W p l e ({ frames := 0, cells := 0, slots := 0, locals := 0 }) s m args below meth c H locs 0 0 (MQ below (q_X10_spread dC dI cI cJ cZ h_p0 ad_p0 p0_places p0_steps p0_pastFirst p0_past p0_goings p0_rowSize p0_ways p0_hasField p0_fieldSize p0_faultNow p0_hasTree p0_treeSize p0_weightCount p0_roundCount p0_setCount z_p0_leads p0_next post A) args s 0 0 A) (F0 m 83 ls [])) : ∀ (n : Nat) (v1 : Int32) (v3 : Int32) (p0_leads : Nat → Int32), w_X10_spread_L21 v2 p0_fieldSize p0_steps p0_next post K n v1 v3 p0_leads → ∀ (H : Heap) (locs : List Loc) (ls : Array Slot), va_P (dC, dI) vwCl (wld_X10_spread cI cJ cZ h_p0 ad_p0 p0_places p0_steps p0_pastFirst p0_past p0_goings p0_rowSize p0_ways p0_hasField p0_fieldSize p0_faultNow p0_hasTree p0_treeSize p0_weightCount p0_roundCount p0_setCount p0_leads p0_next) H → va_D A (wld_X10_spread cI cJ cZ h_p0 ad_p0 p0_places p0_steps p0_pastFirst p0_past p0_goings p0_rowSize p0_ways p0_hasField p0_fieldSize p0_faultNow p0_hasTree p0_treeSize p0_weightCount p0_roundCount p0_setCount p0_leads p0_next) → va_S A s.heap H locs → lv_has ls 5 [(0, .ref h_p0), (1, .int v1), (2, .int v2), (3, .int v3)] → W p l e ({ frames := 0, cells := 0, slots := 0, locals := 0 }) s m args below meth c H locs 0 0 (MQ below (q_X10_spread dC dI cI cJ cZ h_p0 ad_p0 p0_places p0_steps p0_pastFirst p0_past p0_goings p0_rowSize p0_ways p0_hasField p0_fieldSize p0_faultNow p0_hasTree p0_treeSize p0_weightCount p0_roundCount p0_setCount z_p0_leads p0_next post A) args s 0 0 A) (F0 m 21 ls []) := by
  obtain ⟨hx, hb, hr, hml, hown, hts, hlocks, hK, hA, n1, n2⟩ := id E0
  have iX10 : ∀ w ∈ u_ws RX10 TX10 50, w ∈ wsX10_spread := fun w h => List.mem_cons_of_mem _ (List.mem_append_right _ h)
  intro n
  induction n with
  | zero => intro v1 v3 p0_leads hw; exact hw.elim
  | succ n ih =>
    intro v1 v3 p0_leads hw H locs ls hP hD hS hl
    have hw : w_X10_spread_L21b v2 p0_fieldSize p0_steps p0_next post K (w_X10_spread_L21 v2 p0_fieldSize p0_steps p0_next post K n) v1 v3 p0_leads := hw
    unfold w_X10_spread_L21b at hw
    refine lv_iload_n hx hb dX10_spread_21 rfl (lv_at hl 3 rfl) ?_
    refine lv_aload_n hx hb dX10_spread_22 rfl (lv_at hl 0 rfl) ?_
    refine va_get (D := (dC, dI)) (ci := 10) (v := .int p0_steps) (C := RX10) (T := TX10) (N := 50) hx hb hts iX10 hown hK hP 0 rfl rfl 1 (by decide) (hts (.fieldLink RX10 130 "NetHouseModel" "steps" "I") (by decide +kernel)) (fun _ h9 => h9) rfl dX10_spread_23 ?_
    refine lv_icmp_ge (tgt := 83) hx hb dX10_spread_26 (by decide) (fun c6 => ?_) (fun c7 => ?_)
    · have hw := hw.1 c6
      exact hk _ _ _ _ _ _ hw hP hD hS (lv_sub hl [0, 1, 2] rfl)
    · have hw := hw.2 c7
      refine lv_aload_n hx hb dX10_spread_29 rfl (lv_at hl 0 rfl) ?_
      refine va_get (D := (dC, dI)) (ci := 10) (v := .ref (ad_p0 32)) (C := RX10) (T := TX10) (N := 50) hx hb hts iX10 hown hK hP 0 rfl rfl 32 (by decide) (hts (.fieldLink RX10 81 "NetHouseModel" "leads" "[Z") (by decide +kernel)) (fun _ h9 => h9) rfl dX10_spread_30 ?_
      refine lv_iload_n hx hb dX10_spread_33 rfl (lv_at hl 2 rfl) ?_
      refine va_zald hx hb hK hP 1 2 rfl rfl hw.1 dX10_spread_34 ?_
      have hw := hw.2
      refine lv_if_ne (tgt := 83) hx hb dX10_spread_35 (by decide) (fun c8 => ?_) (fun c9 => ?_)
      · have hw := hw.1 c8
        exact hk _ _ _ _ _ _ hw hP hD hS (lv_sub hl [0, 1, 2] rfl)
      · have hw := hw.2 c9
        refine lv_aload_n hx hb dX10_spread_38 rfl (lv_at hl 0 rfl) ?_
        refine va_get (D := (dC, dI)) (ci := 10) (v := .ref (ad_p0 30)) (C := RX10) (T := TX10) (N := 50) hx hb hts iX10 hown hK hP 0 rfl rfl 30 (by decide) (hts (.fieldLink RX10 75 "NetHouseModel" "next" "[I") (by decide +kernel)) (fun _ h9 => h9) rfl dX10_spread_39 ?_
        refine lv_bipush (v := 16) hx hb dX10_spread_42 (by decide) ?_
        refine lv_iload_n hx hb dX10_spread_44 rfl (lv_at hl 2 rfl) ?_
        refine lv_imul hx hb dX10_spread_45 ?_
        refine lv_iload_n hx hb dX10_spread_46 rfl (lv_at hl 3 rfl) ?_
        refine lv_iadd hx hb dX10_spread_47 ?_
        refine va_iald hx hb hK hP 2 0 rfl rfl hw.1 dX10_spread_48 ?_
        have hw := hw.2
        refine lv_topi (fun x10 ex10 => ?_)
        have hw := hw x10 ex10
        refine lv_istore (lv' := [(4, .int x10), (0, .ref h_p0), (1, .int v1), (2, .int v2), (3, .int v3)]) hx hb dX10_spread_49 hl (by decide) rfl (fun ls hl => ?_)
        refine lv_iload hx hb dX10_spread_51 (lv_at hl 0 rfl) ?_
        refine lv_ldc (v := -2000000005) hx hb hown (hts (.constant RX10 85 (-2000000005)) (by decide +kernel)) dX10_spread_53 ?_
        refine lv_icmp_eq (tgt := 77) hx hb dX10_spread_55 (by decide) (fun c11 => ?_) (fun c12 => ?_)
        · have hw := hw.1 c11
          obtain ⟨x13, ex13⟩ : ∃ y : Int32, y = v3 + (1 : Int32) := ⟨_, rfl⟩
          have hw := hw x13 ex13
          refine lv_iinc (v := x13) (lv' := [(3, .int x13), (4, .int x10), (0, .ref h_p0), (1, .int v1), (2, .int v2)]) hx hb dX10_spread_77 hl (k := 4) rfl (by rw [ex13]; rfl) (by decide) rfl (fun ls hl => ?_)
          refine lv_goto (tgt := 21) hx hb dX10_spread_80 (by decide) ?_
          exact ih _ _ _ hw _ _ _ hP hD hS (lv_sub hl [2, 3, 4, 0] rfl)
        · have hw := hw.2 c12
          refine lv_aload_n hx hb dX10_spread_58 rfl (lv_at hl 1 rfl) ?_
          refine va_get (D := (dC, dI)) (ci := 10) (v := .ref (ad_p0 32)) (C := RX10) (T := TX10) (N := 50) hx hb hts iX10 hown hK hP 0 rfl rfl 32 (by decide) (hts (.fieldLink RX10 81 "NetHouseModel" "leads" "[Z") (by decide +kernel)) (fun _ h9 => h9) rfl dX10_spread_59 ?_
          refine lv_iload hx hb dX10_spread_62 (lv_at hl 0 rfl) ?_
          refine va_zald hx hb hK hP 1 2 rfl rfl hw.1 dX10_spread_64 ?_
          have hw := hw.2
          refine lv_if_eq (tgt := 77) hx hb dX10_spread_65 (by decide) (fun c14 => ?_) (fun c15 => ?_)
          · have hw := hw.1 c14
            obtain ⟨x16, ex16⟩ : ∃ y : Int32, y = v3 + (1 : Int32) := ⟨_, rfl⟩
            have hw := hw x16 ex16
            refine lv_iinc (v := x16) (lv' := [(3, .int x16), (4, .int x10), (0, .ref h_p0), (1, .int v1), (2, .int v2)]) hx hb dX10_spread_77 hl (k := 4) rfl (by rw [ex16]; rfl) (by decide) rfl (fun ls hl => ?_)
            refine lv_goto (tgt := 21) hx hb dX10_spread_80 (by decide) ?_
            exact ih _ _ _ hw _ _ _ hP hD hS (lv_sub hl [2, 3, 4, 0] rfl)
          · have hw := hw.2 c15
            refine lv_aload_n hx hb dX10_spread_68 rfl (lv_at hl 1 rfl) ?_
            refine va_get (D := (dC, dI)) (ci := 10) (v := .ref (ad_p0 32)) (C := RX10) (T := TX10) (N := 50) hx hb hts iX10 hown hK hP 0 rfl rfl 32 (by decide) (hts (.fieldLink RX10 81 "NetHouseModel" "leads" "[Z") (by decide +kernel)) (fun _ h9 => h9) rfl dX10_spread_69 ?_
            refine lv_iload_n hx hb dX10_spread_72 rfl (lv_at hl 3 rfl) ?_
            refine lv_iconst (v := 1) hx hb dX10_spread_73 (by decide) ?_
            refine va_zast hx hb hK hP hD hS 1 2 rfl rfl hw.1 dX10_spread_74 (fun H locs hP hD hS => ?_)
            have hw := hw.2
            have hP : va_P (dC, dI) vwCl (wld_X10_spread cI cJ cZ h_p0 ad_p0 p0_places p0_steps p0_pastFirst p0_past p0_goings p0_rowSize p0_ways p0_hasField p0_fieldSize p0_faultNow p0_hasTree p0_treeSize p0_weightCount p0_roundCount p0_setCount (upd p0_leads v2.toNatClampNeg (vp_nar .boolean (1 : Int32))) p0_next) H := hP
            have hD : va_D A (wld_X10_spread cI cJ cZ h_p0 ad_p0 p0_places p0_steps p0_pastFirst p0_past p0_goings p0_rowSize p0_ways p0_hasField p0_fieldSize p0_faultNow p0_hasTree p0_treeSize p0_weightCount p0_roundCount p0_setCount (upd p0_leads v2.toNatClampNeg (vp_nar .boolean (1 : Int32))) p0_next) := hD
            refine lv_iconst (v := 1) hx hb dX10_spread_75 (by decide) ?_
            refine lv_istore_n (lv' := [(1, .int (1 : Int32)), (4, .int x10), (0, .ref h_p0), (2, .int v2), (3, .int v3)]) hx hb dX10_spread_76 rfl hl (by decide) rfl (fun ls hl => ?_)
            obtain ⟨x17, ex17⟩ : ∃ y : Int32, y = v3 + (1 : Int32) := ⟨_, rfl⟩
            have hw := hw x17 ex17
            refine lv_iinc (v := x17) (lv' := [(3, .int x17), (1, .int (1 : Int32)), (4, .int x10), (0, .ref h_p0), (2, .int v2)]) hx hb dX10_spread_77 hl (k := 4) rfl (by rw [ex17]; rfl) (by decide) rfl (fun ls hl => ?_)
            refine lv_goto (tgt := 21) hx hb dX10_spread_80 (by decide) ?_
            exact ih _ _ _ hw _ _ _ hP hD hS (lv_sub hl [3, 1, 4, 0] rfl)
set_option maxHeartbeats 4000000 in
set_option maxRecDepth 100000 in
theorem c_X10_spread_L15 {p : Program} {l : Launch} {e : Env} {s : State} {m : MethodId} {args : Array Value} {below : List Frame} {meth : Method} {c : Code} {dC : Nat → ClassId} {dI : Nat → Nat → Nat} {A : Nat → Prop} {cI cJ cZ : ClassId} {h_p0 : Nat} {ad_p0 : Nat → Nat} {p0_places : Int32} {p0_steps : Int32} {p0_pastFirst : Int32} {p0_past : Int32} {p0_goings : Int32} {p0_rowSize : Int32} {p0_ways : Int32} {p0_hasField : Int32} {p0_fieldSize : Int32} {p0_faultNow : Int32} {p0_hasTree : Int32} {p0_treeSize : Int32} {p0_weightCount : Int32} {p0_roundCount : Int32} {p0_setCount : Int32} {p0_next : Nat → Int32} {z_p0_leads : Nat → Int32} {post : (Nat → Int32) → Prop} {K : (Int32) → (Int32) → (Nat → Int32) → Prop} (E0 : xEnv p s m args meth c cX10_spread none 5 RX10 wsX10_spread (dC, dI) cI cJ cZ A) (hk : ∀ (v1 : Int32) (v2 : Int32) (p0_leads : Nat → Int32) (H : Heap) (locs : List Loc) (ls : Array Slot), K v1 v2 p0_leads → va_P (dC, dI) vwCl (wld_X10_spread cI cJ cZ h_p0 ad_p0 p0_places p0_steps p0_pastFirst p0_past p0_goings p0_rowSize p0_ways p0_hasField p0_fieldSize p0_faultNow p0_hasTree p0_treeSize p0_weightCount p0_roundCount p0_setCount p0_leads p0_next) H → va_D A (wld_X10_spread cI cJ cZ h_p0 ad_p0 p0_places p0_steps p0_pastFirst p0_past p0_goings p0_rowSize p0_ways p0_hasField p0_fieldSize p0_faultNow p0_hasTree p0_treeSize p0_weightCount p0_roundCount p0_setCount p0_leads p0_next) → va_S A s.heap H locs → lv_has ls 5 [(0, .ref h_p0), (1, .int v1)] → W p l e ({ frames := 0, cells := 0, slots := 0, locals := 0 }) s m args below meth c H locs 0 0 (MQ below (q_X10_spread dC dI cI cJ cZ h_p0 ad_p0 p0_places p0_steps p0_pastFirst p0_past p0_goings p0_rowSize p0_ways p0_hasField p0_fieldSize p0_faultNow p0_hasTree p0_treeSize p0_weightCount p0_roundCount p0_setCount z_p0_leads p0_next post A) args s 0 0 A) (F0 m 89 ls [])) : ∀ (n : Nat) (v1 : Int32) (v2 : Int32) (p0_leads : Nat → Int32), w_X10_spread_L15 p0_fieldSize p0_steps p0_next post K n v1 v2 p0_leads → ∀ (H : Heap) (locs : List Loc) (ls : Array Slot), va_P (dC, dI) vwCl (wld_X10_spread cI cJ cZ h_p0 ad_p0 p0_places p0_steps p0_pastFirst p0_past p0_goings p0_rowSize p0_ways p0_hasField p0_fieldSize p0_faultNow p0_hasTree p0_treeSize p0_weightCount p0_roundCount p0_setCount p0_leads p0_next) H → va_D A (wld_X10_spread cI cJ cZ h_p0 ad_p0 p0_places p0_steps p0_pastFirst p0_past p0_goings p0_rowSize p0_ways p0_hasField p0_fieldSize p0_faultNow p0_hasTree p0_treeSize p0_weightCount p0_roundCount p0_setCount p0_leads p0_next) → va_S A s.heap H locs → lv_has ls 5 [(0, .ref h_p0), (1, .int v1), (2, .int v2)] → W p l e ({ frames := 0, cells := 0, slots := 0, locals := 0 }) s m args below meth c H locs 0 0 (MQ below (q_X10_spread dC dI cI cJ cZ h_p0 ad_p0 p0_places p0_steps p0_pastFirst p0_past p0_goings p0_rowSize p0_ways p0_hasField p0_fieldSize p0_faultNow p0_hasTree p0_treeSize p0_weightCount p0_roundCount p0_setCount z_p0_leads p0_next post A) args s 0 0 A) (F0 m 15 ls []) := by
  obtain ⟨hx, hb, hr, hml, hown, hts, hlocks, hK, hA, n1, n2⟩ := id E0
  have iX10 : ∀ w ∈ u_ws RX10 TX10 50, w ∈ wsX10_spread := fun w h => List.mem_cons_of_mem _ (List.mem_append_right _ h)
  intro n
  induction n with
  | zero => intro v1 v2 p0_leads hw; exact hw.elim
  | succ n ih =>
    intro v1 v2 p0_leads hw H locs ls hP hD hS hl
    have hw : w_X10_spread_L15b p0_fieldSize p0_steps p0_next post K (w_X10_spread_L15 p0_fieldSize p0_steps p0_next post K n) v1 v2 p0_leads := hw
    unfold w_X10_spread_L15b at hw
    refine lv_iload_n hx hb dX10_spread_15 rfl (lv_at hl 2 rfl) ?_
    refine lv_if_lt (tgt := 89) hx hb dX10_spread_16 (by decide) (fun c4 => ?_) (fun c5 => ?_)
    · have hw := hw.1 c4
      exact hk _ _ _ _ _ _ hw hP hD hS (lv_sub hl [0, 1] rfl)
    · have hw := hw.2 c5
      refine lv_iconst (v := 0) hx hb dX10_spread_19 (by decide) ?_
      refine lv_istore_n (lv' := [(3, .int (0 : Int32)), (0, .ref h_p0), (1, .int v1), (2, .int v2)]) hx hb dX10_spread_20 rfl hl (by decide) rfl (fun ls hl => ?_)
      obtain ⟨n18, hw⟩ := hw
      refine c_X10_spread_L21 (l := l) (z_p0_leads := p0_leads) E0 ?_ n18 _ _ _ hw _ _ _ hP hD hS (lv_sub hl [1, 2, 3, 0] rfl)
      · intro v19 v20 s21 H locs ls hw hP hD hS hl
        have hP : va_P (dC, dI) vwCl (wld_X10_spread cI cJ cZ h_p0 ad_p0 p0_places p0_steps p0_pastFirst p0_past p0_goings p0_rowSize p0_ways p0_hasField p0_fieldSize p0_faultNow p0_hasTree p0_treeSize p0_weightCount p0_roundCount p0_setCount s21 p0_next) H := hP
        have hD : va_D A (wld_X10_spread cI cJ cZ h_p0 ad_p0 p0_places p0_steps p0_pastFirst p0_past p0_goings p0_rowSize p0_ways p0_hasField p0_fieldSize p0_faultNow p0_hasTree p0_treeSize p0_weightCount p0_roundCount p0_setCount s21 p0_next) := hD
        obtain ⟨x22, ex22⟩ : ∃ y : Int32, y = v2 + (-1 : Int32) := ⟨_, rfl⟩
        have hw := hw x22 ex22
        refine lv_iinc (v := x22) (lv' := [(2, .int x22), (0, .ref h_p0), (1, .int v19)]) hx hb dX10_spread_83 hl (k := 2) rfl (by rw [ex22]; rfl) (by decide) rfl (fun ls hl => ?_)
        refine lv_goto (tgt := 15) hx hb dX10_spread_86 (by decide) ?_
        exact ih _ _ _ hw _ _ _ hP hD hS (lv_sub hl [1, 2, 0] rfl)
set_option maxHeartbeats 4000000 in
set_option maxRecDepth 100000 in
theorem c_X10_spread_L2 {p : Program} {l : Launch} {e : Env} {s : State} {m : MethodId} {args : Array Value} {below : List Frame} {meth : Method} {c : Code} {dC : Nat → ClassId} {dI : Nat → Nat → Nat} {A : Nat → Prop} {cI cJ cZ : ClassId} {h_p0 : Nat} {ad_p0 : Nat → Nat} {p0_places : Int32} {p0_steps : Int32} {p0_pastFirst : Int32} {p0_past : Int32} {p0_goings : Int32} {p0_rowSize : Int32} {p0_ways : Int32} {p0_hasField : Int32} {p0_fieldSize : Int32} {p0_faultNow : Int32} {p0_hasTree : Int32} {p0_treeSize : Int32} {p0_weightCount : Int32} {p0_roundCount : Int32} {p0_setCount : Int32} {p0_next : Nat → Int32} {z_p0_leads : Nat → Int32} {post : (Nat → Int32) → Prop} {K : (Int32) → (Nat → Int32) → Prop} (E0 : xEnv p s m args meth c cX10_spread none 5 RX10 wsX10_spread (dC, dI) cI cJ cZ A) (hk : ∀ (v1 : Int32) (p0_leads : Nat → Int32) (H : Heap) (locs : List Loc) (ls : Array Slot), K v1 p0_leads → va_P (dC, dI) vwCl (wld_X10_spread cI cJ cZ h_p0 ad_p0 p0_places p0_steps p0_pastFirst p0_past p0_goings p0_rowSize p0_ways p0_hasField p0_fieldSize p0_faultNow p0_hasTree p0_treeSize p0_weightCount p0_roundCount p0_setCount p0_leads p0_next) H → va_D A (wld_X10_spread cI cJ cZ h_p0 ad_p0 p0_places p0_steps p0_pastFirst p0_past p0_goings p0_rowSize p0_ways p0_hasField p0_fieldSize p0_faultNow p0_hasTree p0_treeSize p0_weightCount p0_roundCount p0_setCount p0_leads p0_next) → va_S A s.heap H locs → lv_has ls 5 [] → W p l e ({ frames := 0, cells := 0, slots := 0, locals := 0 }) s m args below meth c H locs 0 0 (MQ below (q_X10_spread dC dI cI cJ cZ h_p0 ad_p0 p0_places p0_steps p0_pastFirst p0_past p0_goings p0_rowSize p0_ways p0_hasField p0_fieldSize p0_faultNow p0_hasTree p0_treeSize p0_weightCount p0_roundCount p0_setCount z_p0_leads p0_next post A) args s 0 0 A) (F0 m 92 ls [])) : ∀ (n : Nat) (v1 : Int32) (p0_leads : Nat → Int32), w_X10_spread_L2 p0_fieldSize p0_steps p0_next post K n v1 p0_leads → ∀ (H : Heap) (locs : List Loc) (ls : Array Slot), va_P (dC, dI) vwCl (wld_X10_spread cI cJ cZ h_p0 ad_p0 p0_places p0_steps p0_pastFirst p0_past p0_goings p0_rowSize p0_ways p0_hasField p0_fieldSize p0_faultNow p0_hasTree p0_treeSize p0_weightCount p0_roundCount p0_setCount p0_leads p0_next) H → va_D A (wld_X10_spread cI cJ cZ h_p0 ad_p0 p0_places p0_steps p0_pastFirst p0_past p0_goings p0_rowSize p0_ways p0_hasField p0_fieldSize p0_faultNow p0_hasTree p0_treeSize p0_weightCount p0_roundCount p0_setCount p0_leads p0_next) → va_S A s.heap H locs → lv_has ls 5 [(0, .ref h_p0), (1, .int v1)] → W p l e ({ frames := 0, cells := 0, slots := 0, locals := 0 }) s m args below meth c H locs 0 0 (MQ below (q_X10_spread dC dI cI cJ cZ h_p0 ad_p0 p0_places p0_steps p0_pastFirst p0_past p0_goings p0_rowSize p0_ways p0_hasField p0_fieldSize p0_faultNow p0_hasTree p0_treeSize p0_weightCount p0_roundCount p0_setCount z_p0_leads p0_next post A) args s 0 0 A) (F0 m 2 ls []) := by
  obtain ⟨hx, hb, hr, hml, hown, hts, hlocks, hK, hA, n1, n2⟩ := id E0
  have iX10 : ∀ w ∈ u_ws RX10 TX10 50, w ∈ wsX10_spread := fun w h => List.mem_cons_of_mem _ (List.mem_append_right _ h)
  intro n
  induction n with
  | zero => intro v1 p0_leads hw; exact hw.elim
  | succ n ih =>
    intro v1 p0_leads hw H locs ls hP hD hS hl
    have hw : w_X10_spread_L2b p0_fieldSize p0_steps p0_next post K (w_X10_spread_L2 p0_fieldSize p0_steps p0_next post K n) v1 p0_leads := hw
    unfold w_X10_spread_L2b at hw
    refine lv_iload_n hx hb dX10_spread_2 rfl (lv_at hl 1 rfl) ?_
    refine lv_if_eq (tgt := 92) hx hb dX10_spread_3 (by decide) (fun c1 => ?_) (fun c2 => ?_)
    · have hw := hw.1 c1
      exact hk _ _ _ _ _ hw hP hD hS (lv_sub hl [] rfl)
    · have hw := hw.2 c2
      refine lv_iconst (v := 0) hx hb dX10_spread_6 (by decide) ?_
      refine lv_istore_n (lv' := [(1, .int (0 : Int32)), (0, .ref h_p0)]) hx hb dX10_spread_7 rfl hl (by decide) rfl (fun ls hl => ?_)
      refine lv_aload_n hx hb dX10_spread_8 rfl (lv_at hl 1 rfl) ?_
      refine va_get (D := (dC, dI)) (ci := 10) (v := .int p0_fieldSize) (C := RX10) (T := TX10) (N := 50) hx hb hts iX10 hown hK hP 0 rfl rfl 25 (by decide) (hts (.fieldLink RX10 124 "NetHouseModel" "fieldSize" "I") (by decide +kernel)) (fun _ h9 => h9) rfl dX10_spread_9 ?_
      refine lv_iconst (v := 1) hx hb dX10_spread_12 (by decide) ?_
      refine lv_isub hx hb dX10_spread_13 ?_
      refine lv_topi (fun x3 ex3 => ?_)
      have hw := hw x3 ex3
      refine lv_istore_n (lv' := [(2, .int x3), (1, .int (0 : Int32)), (0, .ref h_p0)]) hx hb dX10_spread_14 rfl hl (by decide) rfl (fun ls hl => ?_)
      obtain ⟨n23, hw⟩ := hw
      refine c_X10_spread_L15 (l := l) (z_p0_leads := p0_leads) E0 ?_ n23 _ _ _ hw _ _ _ hP hD hS (lv_sub hl [2, 1, 0] rfl)
      · intro v24 v25 s26 H locs ls hw hP hD hS hl
        have hP : va_P (dC, dI) vwCl (wld_X10_spread cI cJ cZ h_p0 ad_p0 p0_places p0_steps p0_pastFirst p0_past p0_goings p0_rowSize p0_ways p0_hasField p0_fieldSize p0_faultNow p0_hasTree p0_treeSize p0_weightCount p0_roundCount p0_setCount s26 p0_next) H := hP
        have hD : va_D A (wld_X10_spread cI cJ cZ h_p0 ad_p0 p0_places p0_steps p0_pastFirst p0_past p0_goings p0_rowSize p0_ways p0_hasField p0_fieldSize p0_faultNow p0_hasTree p0_treeSize p0_weightCount p0_roundCount p0_setCount s26 p0_next) := hD
        refine lv_goto (tgt := 2) hx hb dX10_spread_89 (by decide) ?_
        exact ih _ _ hw _ _ _ hP hD hS (lv_sub hl [0, 1] rfl)
set_option maxHeartbeats 4000000 in
set_option maxRecDepth 100000 in
theorem c_X10_spread {l : Launch} {dC : Nat → ClassId} {dI : Nat → Nat → Nat} {sz : Nat} {cI cJ cZ : ClassId} {h_p0 : Nat} {ad_p0 : Nat → Nat} {p0_places : Int32} {p0_steps : Int32} {p0_pastFirst : Int32} {p0_past : Int32} {p0_goings : Int32} {p0_rowSize : Int32} {p0_ways : Int32} {p0_hasField : Int32} {p0_fieldSize : Int32} {p0_faultNow : Int32} {p0_hasTree : Int32} {p0_treeSize : Int32} {p0_weightCount : Int32} {p0_roundCount : Int32} {p0_setCount : Int32} {p0_leads : Nat → Int32} {p0_next : Nat → Int32}  {post : (Nat → Int32) → Prop} (hw : w_X10_spread p0_fieldSize p0_steps p0_leads p0_next post) : Met l yX10_spread wsX10_spread ({ frames := 0, cells := 0, slots := 0, locals := 0 }) (va_Pc [.ref h_p0] (xPre (dC, dI) cI cJ cZ (wld_X10_spread cI cJ cZ h_p0 ad_p0 p0_places p0_steps p0_pastFirst p0_past p0_goings p0_rowSize p0_ways p0_hasField p0_fieldSize p0_faultNow p0_hasTree p0_treeSize p0_weightCount p0_roundCount p0_setCount p0_leads p0_next) sz)) (q_X10_spread dC dI cI cJ cZ h_p0 ad_p0 p0_places p0_steps p0_pastFirst p0_past p0_goings p0_rowSize p0_ways p0_hasField p0_fieldSize p0_faultNow p0_hasTree p0_treeSize p0_weightCount p0_roundCount p0_setCount p0_leads p0_next post (va_A (wld_X10_spread cI cJ cZ h_p0 ad_p0 p0_places p0_steps p0_pastFirst p0_past p0_goings p0_rowSize p0_ways p0_hasField p0_fieldSize p0_faultNow p0_hasTree p0_treeSize p0_weightCount p0_roundCount p0_setCount p0_leads p0_next) sz)) 0 0 (va_A (wld_X10_spread cI cJ cZ h_p0 ad_p0 p0_places p0_steps p0_pastFirst p0_past p0_goings p0_rowSize p0_ways p0_hasField p0_fieldSize p0_faultNow p0_hasTree p0_treeSize p0_weightCount p0_roundCount p0_setCount p0_leads p0_next) sz) := by
  refine x_met (cc := cX10_spread) (maxL := 5) (ret := none) (own := RX10) (Qc := fun A => (q_X10_spread dC dI cI cJ cZ h_p0 ad_p0 p0_places p0_steps p0_pastFirst p0_past p0_goings p0_rowSize p0_ways p0_hasField p0_fieldSize p0_faultNow p0_hasTree p0_treeSize p0_weightCount p0_roundCount p0_setCount p0_leads p0_next post A)) (by decide) rfl rfl (Nat.le_of_ble_eq_true rfl) ?_
  intro p e s m args below meth c A ls E0 hP hD hS hl
  obtain ⟨hx, hb, hr, hml, hown, hts, hlocks, hK, hA, n1, n2⟩ := id E0
  have iX10 : ∀ w ∈ u_ws RX10 TX10 50, w ∈ wsX10_spread := fun w h => List.mem_cons_of_mem _ (List.mem_append_right _ h)
  have hS0 := hS
  have hl : lv_has ls 5 [(0, .ref h_p0)] := hl
  unfold w_X10_spread at hw
  obtain ⟨H, hH⟩ : ∃ H, H = s.heap := ⟨_, rfl⟩
  have hS : va_S A s.heap H [] := by rw [hH]; exact hS
  have hP : va_P (dC, dI) vwCl (wld_X10_spread cI cJ cZ h_p0 ad_p0 p0_places p0_steps p0_pastFirst p0_past p0_goings p0_rowSize p0_ways p0_hasField p0_fieldSize p0_faultNow p0_hasTree p0_treeSize p0_weightCount p0_roundCount p0_setCount p0_leads p0_next) H := by rw [hH]; exact hP
  suffices hG : W p l e ({ frames := 0, cells := 0, slots := 0, locals := 0 }) s m args below meth c H [] 0 0 (MQ below (q_X10_spread dC dI cI cJ cZ h_p0 ad_p0 p0_places p0_steps p0_pastFirst p0_past p0_goings p0_rowSize p0_ways p0_hasField p0_fieldSize p0_faultNow p0_hasTree p0_treeSize p0_weightCount p0_roundCount p0_setCount p0_leads p0_next post A) args s 0 0 A) (F0 m 0 ls []) by rw [hH] at hG; exact hG
  clear hH
  refine lv_iconst (v := 1) hx hb dX10_spread_0 (by decide) ?_
  refine lv_istore_n (lv' := [(1, .int (1 : Int32)), (0, .ref h_p0)]) hx hb dX10_spread_1 rfl hl (by decide) rfl (fun ls hl => ?_)
  obtain ⟨n27, hw⟩ := hw
  refine c_X10_spread_L2 (l := l) (z_p0_leads := p0_leads) E0 ?_ n27 _ _ hw _ _ _ hP hD hS (lv_sub hl [1, 0] rfl)
  · intro v28 s29 H locs ls hw hP hD hS hl
    have hP : va_P (dC, dI) vwCl (wld_X10_spread cI cJ cZ h_p0 ad_p0 p0_places p0_steps p0_pastFirst p0_past p0_goings p0_rowSize p0_ways p0_hasField p0_fieldSize p0_faultNow p0_hasTree p0_treeSize p0_weightCount p0_roundCount p0_setCount s29 p0_next) H := hP
    have hD : va_D A (wld_X10_spread cI cJ cZ h_p0 ad_p0 p0_places p0_steps p0_pastFirst p0_past p0_goings p0_rowSize p0_ways p0_hasField p0_fieldSize p0_faultNow p0_hasTree p0_treeSize p0_weightCount p0_roundCount p0_setCount s29 p0_next) := hD
    exact x_vret (w1 := fun (u : (Nat → Int32)) => (wld_X10_spread cI cJ cZ h_p0 ad_p0 p0_places p0_steps p0_pastFirst p0_past p0_goings p0_rowSize p0_ways p0_hasField p0_fieldSize p0_faultNow p0_hasTree p0_treeSize p0_weightCount p0_roundCount p0_setCount u p0_next)) hx hb hr hlocks (s29) hw hP hD hS dX10_spread_92
abbrev wld_X10_leastOut (cI cJ cZ : ClassId) (h_p0 : Nat) (ad_p0 : Nat → Nat) (p0_places : Int32) (p0_steps : Int32) (p0_pastFirst : Int32) (p0_past : Int32) (p0_goings : Int32) (p0_rowSize : Int32) (p0_ways : Int32) (p0_hasField : Int32) (p0_fieldSize : Int32) (p0_faultNow : Int32) (p0_hasTree : Int32) (p0_treeSize : Int32) (p0_weightCount : Int32) (p0_roundCount : Int32) (p0_setCount : Int32) (p0_leads : Nat → Int32) : va_W := [(h_p0, .inr (10, [.int p0_places, .int p0_steps, .ref (ad_p0 2), .ref (ad_p0 3), .ref (ad_p0 4), .ref (ad_p0 5), .ref (ad_p0 6), .ref (ad_p0 7), .ref (ad_p0 8), .ref (ad_p0 9), .ref (ad_p0 10), .ref (ad_p0 11), .ref (ad_p0 12), .ref (ad_p0 13), .ref (ad_p0 14), .int p0_pastFirst, .int p0_past, .int p0_goings, .int p0_rowSize, .ref (ad_p0 19), .ref (ad_p0 20), .int p0_ways, .ref (ad_p0 22), .ref (ad_p0 23), .int p0_hasField, .int p0_fieldSize, .ref (ad_p0 26), .ref (ad_p0 27), .ref (ad_p0 28), .ref (ad_p0 29), .ref (ad_p0 30), .ref (ad_p0 31), .ref (ad_p0 32), .int p0_faultNow, .int p0_hasTree, .int p0_treeSize, .ref (ad_p0 36), .ref (ad_p0 37), .ref (ad_p0 38), .ref (ad_p0 39), .ref (ad_p0 40), .ref (ad_p0 41), .ref (ad_p0 42), .int p0_weightCount, .ref (ad_p0 44), .int p0_roundCount, .ref (ad_p0 46), .int p0_setCount, .ref (ad_p0 48), .ref (ad_p0 49)])), ((ad_p0 32), .inl (cZ, 8000, .inl p0_leads))]
abbrev q_X10_leastOut (dC : Nat → ClassId) (dI : Nat → Nat → Nat) (cI cJ cZ : ClassId) (h_p0 : Nat) (ad_p0 : Nat → Nat) (p0_places : Int32) (p0_steps : Int32) (p0_pastFirst : Int32) (p0_past : Int32) (p0_goings : Int32) (p0_rowSize : Int32) (p0_ways : Int32) (p0_hasField : Int32) (p0_fieldSize : Int32) (p0_faultNow : Int32) (p0_hasTree : Int32) (p0_treeSize : Int32) (p0_weightCount : Int32) (p0_roundCount : Int32) (p0_setCount : Int32) (p0_leads : Nat → Int32) (post : Int32 → Prop) (A : Nat → Prop) : Array Value → State → Outcome → State → Prop := va_Qi (fun r (u : Unit) => post r ) (fun (u : Unit) t => xPost (dC, dI) A (wld_X10_leastOut cI cJ cZ h_p0 ad_p0 p0_places p0_steps p0_pastFirst p0_past p0_goings p0_rowSize p0_ways p0_hasField p0_fieldSize p0_faultNow p0_hasTree p0_treeSize p0_weightCount p0_roundCount p0_setCount p0_leads) t) A
def w_X10_leastOut_L2b (p0_fieldSize : Int32) (p0_leads : Nat → Int32) (post : Int32 → Prop) (K : (Int32) → Prop) (rec : (Int32) → Prop) (v1 : Int32) : Prop :=
    (p0_fieldSize ≤ v1 →
      K v1) ∧
    (¬ p0_fieldSize ≤ v1 →
      vp_in v1 8000 ∧
      (¬ (p0_leads v1.toNatClampNeg) = 0 →
        ∀ x5 : Int32, x5 = v1 + (1 : Int32) →
        rec x5) ∧
      ((p0_leads v1.toNatClampNeg) = 0 →
        (post v1)))
def w_X10_leastOut_L2 (p0_fieldSize : Int32) (p0_leads : Nat → Int32) (post : Int32 → Prop) (K : (Int32) → Prop) : Nat → (Int32) → Prop
  | 0, _ => False
  | n + 1, v1 => w_X10_leastOut_L2b p0_fieldSize p0_leads post K (w_X10_leastOut_L2 p0_fieldSize p0_leads post K n) v1
def w_X10_leastOut (p0_fieldSize : Int32) (p0_leads : Nat → Int32) (post : Int32 → Prop) : Prop :=
  ∃ n : Nat, w_X10_leastOut_L2 p0_fieldSize p0_leads post (fun v7 =>
      (post (-2000000005 : Int32))) n (0 : Int32)
set_option maxHeartbeats 4000000 in
set_option maxRecDepth 100000 in
theorem c_X10_leastOut_L2 {p : Program} {l : Launch} {e : Env} {s : State} {m : MethodId} {args : Array Value} {below : List Frame} {meth : Method} {c : Code} {dC : Nat → ClassId} {dI : Nat → Nat → Nat} {A : Nat → Prop} {cI cJ cZ : ClassId} {h_p0 : Nat} {ad_p0 : Nat → Nat} {p0_places : Int32} {p0_steps : Int32} {p0_pastFirst : Int32} {p0_past : Int32} {p0_goings : Int32} {p0_rowSize : Int32} {p0_ways : Int32} {p0_hasField : Int32} {p0_fieldSize : Int32} {p0_faultNow : Int32} {p0_hasTree : Int32} {p0_treeSize : Int32} {p0_weightCount : Int32} {p0_roundCount : Int32} {p0_setCount : Int32} {p0_leads : Nat → Int32}  {post : Int32 → Prop} {K : (Int32) → Prop} (E0 : xEnv p s m args meth c cX10_leastOut (some .int) 2 RX10 wsX10_leastOut (dC, dI) cI cJ cZ A) (hk : ∀ (v1 : Int32) (H : Heap) (locs : List Loc) (ls : Array Slot), K v1 → va_P (dC, dI) vwCl (wld_X10_leastOut cI cJ cZ h_p0 ad_p0 p0_places p0_steps p0_pastFirst p0_past p0_goings p0_rowSize p0_ways p0_hasField p0_fieldSize p0_faultNow p0_hasTree p0_treeSize p0_weightCount p0_roundCount p0_setCount p0_leads) H → va_D A (wld_X10_leastOut cI cJ cZ h_p0 ad_p0 p0_places p0_steps p0_pastFirst p0_past p0_goings p0_rowSize p0_ways p0_hasField p0_fieldSize p0_faultNow p0_hasTree p0_treeSize p0_weightCount p0_roundCount p0_setCount p0_leads) → va_S A s.heap H locs → lv_has ls 2 [] → W p l e ({ frames := 0, cells := 0, slots := 0, locals := 0 }) s m args below meth c H locs 0 0 (MQ below (q_X10_leastOut dC dI cI cJ cZ h_p0 ad_p0 p0_places p0_steps p0_pastFirst p0_past p0_goings p0_rowSize p0_ways p0_hasField p0_fieldSize p0_faultNow p0_hasTree p0_treeSize p0_weightCount p0_roundCount p0_setCount p0_leads post A) args s 0 0 A) (F0 m 27 ls [])) : ∀ (n : Nat) (v1 : Int32), w_X10_leastOut_L2 p0_fieldSize p0_leads post K n v1 → ∀ (H : Heap) (locs : List Loc) (ls : Array Slot), va_P (dC, dI) vwCl (wld_X10_leastOut cI cJ cZ h_p0 ad_p0 p0_places p0_steps p0_pastFirst p0_past p0_goings p0_rowSize p0_ways p0_hasField p0_fieldSize p0_faultNow p0_hasTree p0_treeSize p0_weightCount p0_roundCount p0_setCount p0_leads) H → va_D A (wld_X10_leastOut cI cJ cZ h_p0 ad_p0 p0_places p0_steps p0_pastFirst p0_past p0_goings p0_rowSize p0_ways p0_hasField p0_fieldSize p0_faultNow p0_hasTree p0_treeSize p0_weightCount p0_roundCount p0_setCount p0_leads) → va_S A s.heap H locs → lv_has ls 2 [(0, .ref h_p0), (1, .int v1)] → W p l e ({ frames := 0, cells := 0, slots := 0, locals := 0 }) s m args below meth c H locs 0 0 (MQ below (q_X10_leastOut dC dI cI cJ cZ h_p0 ad_p0 p0_places p0_steps p0_pastFirst p0_past p0_goings p0_rowSize p0_ways p0_hasField p0_fieldSize p0_faultNow p0_hasTree p0_treeSize p0_weightCount p0_roundCount p0_setCount p0_leads post A) args s 0 0 A) (F0 m 2 ls []) := by
  obtain ⟨hx, hb, hr, hml, hown, hts, hlocks, hK, hA, n1, n2⟩ := id E0
  have iX10 : ∀ w ∈ u_ws RX10 TX10 50, w ∈ wsX10_leastOut := fun w h => List.mem_cons_of_mem _ (List.mem_append_right _ h)
  intro n
  induction n with
  | zero => intro v1 hw; exact hw.elim
  | succ n ih =>
    intro v1 hw H locs ls hP hD hS hl
    have hw : w_X10_leastOut_L2b p0_fieldSize p0_leads post K (w_X10_leastOut_L2 p0_fieldSize p0_leads post K n) v1 := hw
    unfold w_X10_leastOut_L2b at hw
    refine lv_iload_n hx hb dX10_leastOut_2 rfl (lv_at hl 1 rfl) ?_
    refine lv_aload_n hx hb dX10_leastOut_3 rfl (lv_at hl 0 rfl) ?_
    refine va_get (D := (dC, dI)) (ci := 10) (v := .int p0_fieldSize) (C := RX10) (T := TX10) (N := 50) hx hb hts iX10 hown hK hP 0 rfl rfl 25 (by decide) (hts (.fieldLink RX10 124 "NetHouseModel" "fieldSize" "I") (by decide +kernel)) (fun _ h9 => h9) rfl dX10_leastOut_4 ?_
    refine lv_icmp_ge (tgt := 27) hx hb dX10_leastOut_7 (by decide) (fun c1 => ?_) (fun c2 => ?_)
    · have hw := hw.1 c1
      exact hk _ _ _ _ hw hP hD hS (lv_sub hl [] rfl)
    · have hw := hw.2 c2
      refine lv_aload_n hx hb dX10_leastOut_10 rfl (lv_at hl 0 rfl) ?_
      refine va_get (D := (dC, dI)) (ci := 10) (v := .ref (ad_p0 32)) (C := RX10) (T := TX10) (N := 50) hx hb hts iX10 hown hK hP 0 rfl rfl 32 (by decide) (hts (.fieldLink RX10 81 "NetHouseModel" "leads" "[Z") (by decide +kernel)) (fun _ h9 => h9) rfl dX10_leastOut_11 ?_
      refine lv_iload_n hx hb dX10_leastOut_14 rfl (lv_at hl 1 rfl) ?_
      refine va_zald hx hb hK hP 1 2 rfl rfl hw.1 dX10_leastOut_15 ?_
      have hw := hw.2
      refine lv_if_ne (tgt := 21) hx hb dX10_leastOut_16 (by decide) (fun c3 => ?_) (fun c4 => ?_)
      · have hw := hw.1 c3
        obtain ⟨x5, ex5⟩ : ∃ y : Int32, y = v1 + (1 : Int32) := ⟨_, rfl⟩
        have hw := hw x5 ex5
        refine lv_iinc (v := x5) (lv' := [(1, .int x5), (0, .ref h_p0)]) hx hb dX10_leastOut_21 hl (k := 1) rfl (by rw [ex5]; rfl) (by decide) rfl (fun ls hl => ?_)
        refine lv_goto (tgt := 2) hx hb dX10_leastOut_24 (by decide) ?_
        exact ih _ hw _ _ _ hP hD hS (lv_sub hl [1, 0] rfl)
      · have hw := hw.2 c4
        refine lv_iload_n hx hb dX10_leastOut_19 rfl (lv_at hl 1 rfl) ?_
        exact x_iret (w1 := fun (u : Unit) => (wld_X10_leastOut cI cJ cZ h_p0 ad_p0 p0_places p0_steps p0_pastFirst p0_past p0_goings p0_rowSize p0_ways p0_hasField p0_fieldSize p0_faultNow p0_hasTree p0_treeSize p0_weightCount p0_roundCount p0_setCount p0_leads)) hx hb hr hlocks () hw hP hD hS dX10_leastOut_20
set_option maxHeartbeats 4000000 in
set_option maxRecDepth 100000 in
theorem c_X10_leastOut {l : Launch} {dC : Nat → ClassId} {dI : Nat → Nat → Nat} {sz : Nat} {cI cJ cZ : ClassId} {h_p0 : Nat} {ad_p0 : Nat → Nat} {p0_places : Int32} {p0_steps : Int32} {p0_pastFirst : Int32} {p0_past : Int32} {p0_goings : Int32} {p0_rowSize : Int32} {p0_ways : Int32} {p0_hasField : Int32} {p0_fieldSize : Int32} {p0_faultNow : Int32} {p0_hasTree : Int32} {p0_treeSize : Int32} {p0_weightCount : Int32} {p0_roundCount : Int32} {p0_setCount : Int32} {p0_leads : Nat → Int32}  {post : Int32 → Prop} (hw : w_X10_leastOut p0_fieldSize p0_leads post) : Met l yX10_leastOut wsX10_leastOut ({ frames := 0, cells := 0, slots := 0, locals := 0 }) (va_Pc [.ref h_p0] (xPre (dC, dI) cI cJ cZ (wld_X10_leastOut cI cJ cZ h_p0 ad_p0 p0_places p0_steps p0_pastFirst p0_past p0_goings p0_rowSize p0_ways p0_hasField p0_fieldSize p0_faultNow p0_hasTree p0_treeSize p0_weightCount p0_roundCount p0_setCount p0_leads) sz)) (q_X10_leastOut dC dI cI cJ cZ h_p0 ad_p0 p0_places p0_steps p0_pastFirst p0_past p0_goings p0_rowSize p0_ways p0_hasField p0_fieldSize p0_faultNow p0_hasTree p0_treeSize p0_weightCount p0_roundCount p0_setCount p0_leads post (va_A (wld_X10_leastOut cI cJ cZ h_p0 ad_p0 p0_places p0_steps p0_pastFirst p0_past p0_goings p0_rowSize p0_ways p0_hasField p0_fieldSize p0_faultNow p0_hasTree p0_treeSize p0_weightCount p0_roundCount p0_setCount p0_leads) sz)) 0 0 (va_A (wld_X10_leastOut cI cJ cZ h_p0 ad_p0 p0_places p0_steps p0_pastFirst p0_past p0_goings p0_rowSize p0_ways p0_hasField p0_fieldSize p0_faultNow p0_hasTree p0_treeSize p0_weightCount p0_roundCount p0_setCount p0_leads) sz) := by
  refine x_met (cc := cX10_leastOut) (maxL := 2) (ret := (some .int)) (own := RX10) (Qc := fun A => (q_X10_leastOut dC dI cI cJ cZ h_p0 ad_p0 p0_places p0_steps p0_pastFirst p0_past p0_goings p0_rowSize p0_ways p0_hasField p0_fieldSize p0_faultNow p0_hasTree p0_treeSize p0_weightCount p0_roundCount p0_setCount p0_leads post A)) (by decide) rfl rfl (Nat.le_of_ble_eq_true rfl) ?_
  intro p e s m args below meth c A ls E0 hP hD hS hl
  obtain ⟨hx, hb, hr, hml, hown, hts, hlocks, hK, hA, n1, n2⟩ := id E0
  have iX10 : ∀ w ∈ u_ws RX10 TX10 50, w ∈ wsX10_leastOut := fun w h => List.mem_cons_of_mem _ (List.mem_append_right _ h)
  have hS0 := hS
  have hl : lv_has ls 2 [(0, .ref h_p0)] := hl
  unfold w_X10_leastOut at hw
  obtain ⟨H, hH⟩ : ∃ H, H = s.heap := ⟨_, rfl⟩
  have hS : va_S A s.heap H [] := by rw [hH]; exact hS
  have hP : va_P (dC, dI) vwCl (wld_X10_leastOut cI cJ cZ h_p0 ad_p0 p0_places p0_steps p0_pastFirst p0_past p0_goings p0_rowSize p0_ways p0_hasField p0_fieldSize p0_faultNow p0_hasTree p0_treeSize p0_weightCount p0_roundCount p0_setCount p0_leads) H := by rw [hH]; exact hP
  suffices hG : W p l e ({ frames := 0, cells := 0, slots := 0, locals := 0 }) s m args below meth c H [] 0 0 (MQ below (q_X10_leastOut dC dI cI cJ cZ h_p0 ad_p0 p0_places p0_steps p0_pastFirst p0_past p0_goings p0_rowSize p0_ways p0_hasField p0_fieldSize p0_faultNow p0_hasTree p0_treeSize p0_weightCount p0_roundCount p0_setCount p0_leads post A) args s 0 0 A) (F0 m 0 ls []) by rw [hH] at hG; exact hG
  clear hH
  refine lv_iconst (v := 0) hx hb dX10_leastOut_0 (by decide) ?_
  refine lv_istore_n (lv' := [(1, .int (0 : Int32)), (0, .ref h_p0)]) hx hb dX10_leastOut_1 rfl hl (by decide) rfl (fun ls hl => ?_)
  obtain ⟨n6, hw⟩ := hw
  refine c_X10_leastOut_L2 (l := l)  E0 ?_ n6 _ hw _ _ _ hP hD hS (lv_sub hl [1, 0] rfl)
  · intro v7 H locs ls hw hP hD hS hl
    have hP : va_P (dC, dI) vwCl (wld_X10_leastOut cI cJ cZ h_p0 ad_p0 p0_places p0_steps p0_pastFirst p0_past p0_goings p0_rowSize p0_ways p0_hasField p0_fieldSize p0_faultNow p0_hasTree p0_treeSize p0_weightCount p0_roundCount p0_setCount p0_leads) H := hP
    have hD : va_D A (wld_X10_leastOut cI cJ cZ h_p0 ad_p0 p0_places p0_steps p0_pastFirst p0_past p0_goings p0_rowSize p0_ways p0_hasField p0_fieldSize p0_faultNow p0_hasTree p0_treeSize p0_weightCount p0_roundCount p0_setCount p0_leads) := hD
    refine lv_ldc (v := -2000000005) hx hb hown (hts (.constant RX10 85 (-2000000005)) (by decide +kernel)) dX10_leastOut_27 ?_
    exact x_iret (w1 := fun (u : Unit) => (wld_X10_leastOut cI cJ cZ h_p0 ad_p0 p0_places p0_steps p0_pastFirst p0_past p0_goings p0_rowSize p0_ways p0_hasField p0_fieldSize p0_faultNow p0_hasTree p0_treeSize p0_weightCount p0_roundCount p0_setCount p0_leads)) hx hb hr hlocks () hw hP hD hS dX10_leastOut_29
abbrev wld_X10_stuck (cI cJ cZ : ClassId) (h_p0 : Nat) (ad_p0 : Nat → Nat) (p0_places : Int32) (p0_steps : Int32) (p0_pastFirst : Int32) (p0_past : Int32) (p0_goings : Int32) (p0_rowSize : Int32) (p0_ways : Int32) (p0_hasField : Int32) (p0_fieldSize : Int32) (p0_faultNow : Int32) (p0_hasTree : Int32) (p0_treeSize : Int32) (p0_weightCount : Int32) (p0_roundCount : Int32) (p0_setCount : Int32) (p0_leads : Nat → Int32) (p0_next : Nat → Int32) : va_W := [(h_p0, .inr (10, [.int p0_places, .int p0_steps, .ref (ad_p0 2), .ref (ad_p0 3), .ref (ad_p0 4), .ref (ad_p0 5), .ref (ad_p0 6), .ref (ad_p0 7), .ref (ad_p0 8), .ref (ad_p0 9), .ref (ad_p0 10), .ref (ad_p0 11), .ref (ad_p0 12), .ref (ad_p0 13), .ref (ad_p0 14), .int p0_pastFirst, .int p0_past, .int p0_goings, .int p0_rowSize, .ref (ad_p0 19), .ref (ad_p0 20), .int p0_ways, .ref (ad_p0 22), .ref (ad_p0 23), .int p0_hasField, .int p0_fieldSize, .ref (ad_p0 26), .ref (ad_p0 27), .ref (ad_p0 28), .ref (ad_p0 29), .ref (ad_p0 30), .ref (ad_p0 31), .ref (ad_p0 32), .int p0_faultNow, .int p0_hasTree, .int p0_treeSize, .ref (ad_p0 36), .ref (ad_p0 37), .ref (ad_p0 38), .ref (ad_p0 39), .ref (ad_p0 40), .ref (ad_p0 41), .ref (ad_p0 42), .int p0_weightCount, .ref (ad_p0 44), .int p0_roundCount, .ref (ad_p0 46), .int p0_setCount, .ref (ad_p0 48), .ref (ad_p0 49)])), ((ad_p0 32), .inl (cZ, 8000, .inl p0_leads)), ((ad_p0 30), .inl (cI, 128000, .inl p0_next))]
abbrev q_X10_stuck (dC : Nat → ClassId) (dI : Nat → Nat → Nat) (cI cJ cZ : ClassId) (h_p0 : Nat) (ad_p0 : Nat → Nat) (p0_places : Int32) (p0_steps : Int32) (p0_pastFirst : Int32) (p0_past : Int32) (p0_goings : Int32) (p0_rowSize : Int32) (p0_ways : Int32) (p0_hasField : Int32) (p0_fieldSize : Int32) (p0_faultNow : Int32) (p0_hasTree : Int32) (p0_treeSize : Int32) (p0_weightCount : Int32) (p0_roundCount : Int32) (p0_setCount : Int32) (p0_leads : Nat → Int32) (p0_next : Nat → Int32) (post : Int32 → (Nat → Int32) → Prop) (A : Nat → Prop) : Array Value → State → Outcome → State → Prop := va_Qi (fun r (u : (Nat → Int32)) => post r u) (fun (u : (Nat → Int32)) t => xPost (dC, dI) A (wld_X10_stuck cI cJ cZ h_p0 ad_p0 p0_places p0_steps p0_pastFirst p0_past p0_goings p0_rowSize p0_ways p0_hasField p0_fieldSize p0_faultNow p0_hasTree p0_treeSize p0_weightCount p0_roundCount p0_setCount u p0_next) t) A
def w_X10_stuck_L23b (v1 : Int32) (p0_fieldSize : Int32) (p0_hasField : Int32) (p0_steps : Int32) (p0_next : Nat → Int32) (post : Int32 → (Nat → Int32) → Prop) (K : (Int32) → (Nat → Int32) → Prop) (rec : (Int32) → (Nat → Int32) → Prop) (v2 : Int32) (p0_leads : Nat → Int32) : Prop :=
    (p0_fieldSize ≤ v2 →
      K v2 p0_leads) ∧
    (¬ p0_fieldSize ≤ v2 →
      vp_in (((16 : Int32) * v2) + v1) 128000 ∧
      ((p0_next (((16 : Int32) * v2) + v1).toNatClampNeg) = (-2000000005 : Int32) →
        vp_in v2 8000 ∧
        ∀ x10 : Int32, x10 = v2 + (1 : Int32) →
        rec x10 (upd p0_leads v2.toNatClampNeg (vp_nar .boolean (0 : Int32)))) ∧
      (¬ (p0_next (((16 : Int32) * v2) + v1).toNatClampNeg) = (-2000000005 : Int32) →
        vp_in v2 8000 ∧
        ∀ x11 : Int32, x11 = v2 + (1 : Int32) →
        rec x11 (upd p0_leads v2.toNatClampNeg (vp_nar .boolean (1 : Int32)))))
def w_X10_stuck_L23 (v1 : Int32) (p0_fieldSize : Int32) (p0_hasField : Int32) (p0_steps : Int32) (p0_next : Nat → Int32) (post : Int32 → (Nat → Int32) → Prop) (K : (Int32) → (Nat → Int32) → Prop) : Nat → (Int32) → (Nat → Int32) → Prop
  | 0, _, _ => False
  | n + 1, v2, p0_leads => w_X10_stuck_L23b v1 p0_fieldSize p0_hasField p0_steps p0_next post K (w_X10_stuck_L23 v1 p0_fieldSize p0_hasField p0_steps p0_next post K n) v2 p0_leads
def w_X10_stuck (p0_fieldSize : Int32) (p0_hasField : Int32) (p0_steps : Int32) (p0_leads : Nat → Int32) (p0_next : Nat → Int32) (a1 : Int32) (post : Int32 → (Nat → Int32) → Prop) : Prop :=
  w_X10_isStep p0_steps a1 (fun r1 =>
  (¬ r1 = 0 →
    (¬ p0_hasField = 0 →
      ∃ n : Nat, w_X10_stuck_L23 a1 p0_fieldSize p0_hasField p0_steps p0_next post (fun v13 s14 =>
          w_X10_spread p0_fieldSize p0_steps s14 p0_next (fun y15 =>
          w_X10_leastOut p0_fieldSize y15 (fun r16 =>
          (post r16 y15)))) n (0 : Int32) p0_leads) ∧
    (p0_hasField = 0 →
      (post (-2000000002 : Int32) p0_leads))) ∧
  (r1 = 0 →
    (post (-2000000001 : Int32) p0_leads)))
set_option maxHeartbeats 4000000 in
set_option maxRecDepth 100000 in
theorem c_X10_stuck_L23 {p : Program} {l : Launch} {e : Env} {s : State} {m : MethodId} {args : Array Value} {below : List Frame} {meth : Method} {c : Code} {dC : Nat → ClassId} {dI : Nat → Nat → Nat} {A : Nat → Prop} {cI cJ cZ : ClassId} {h_p0 : Nat} {ad_p0 : Nat → Nat} {p0_places : Int32} {p0_steps : Int32} {p0_pastFirst : Int32} {p0_past : Int32} {p0_goings : Int32} {p0_rowSize : Int32} {p0_ways : Int32} {p0_hasField : Int32} {p0_fieldSize : Int32} {p0_faultNow : Int32} {p0_hasTree : Int32} {p0_treeSize : Int32} {p0_weightCount : Int32} {p0_roundCount : Int32} {p0_setCount : Int32} {p0_next : Nat → Int32} {v1 : Int32} {z_p0_leads : Nat → Int32} {post : Int32 → (Nat → Int32) → Prop} {K : (Int32) → (Nat → Int32) → Prop} (E0 : xEnv p s m args meth c cX10_stuck (some .int) 3 RX10 wsX10_stuck (dC, dI) cI cJ cZ A) (hk : ∀ (v2 : Int32) (p0_leads : Nat → Int32) (H : Heap) (locs : List Loc) (ls : Array Slot), K v2 p0_leads → va_P (dC, dI) vwCl (wld_X10_stuck cI cJ cZ h_p0 ad_p0 p0_places p0_steps p0_pastFirst p0_past p0_goings p0_rowSize p0_ways p0_hasField p0_fieldSize p0_faultNow p0_hasTree p0_treeSize p0_weightCount p0_roundCount p0_setCount p0_leads p0_next) H → va_D A (wld_X10_stuck cI cJ cZ h_p0 ad_p0 p0_places p0_steps p0_pastFirst p0_past p0_goings p0_rowSize p0_ways p0_hasField p0_fieldSize p0_faultNow p0_hasTree p0_treeSize p0_weightCount p0_roundCount p0_setCount p0_leads p0_next) → va_S A s.heap H locs → lv_has ls 3 [(0, .ref h_p0)] → W p l e ({ frames := 1, cells := 0, slots := 0, locals := 24 }) s m args below meth c H locs 0 0 (MQ below (q_X10_stuck dC dI cI cJ cZ h_p0 ad_p0 p0_places p0_steps p0_pastFirst p0_past p0_goings p0_rowSize p0_ways p0_hasField p0_fieldSize p0_faultNow p0_hasTree p0_treeSize p0_weightCount p0_roundCount p0_setCount z_p0_leads p0_next post A) args s 0 0 A) (F0 m 64 ls [])) : ∀ (n : Nat) (v2 : Int32) (p0_leads : Nat → Int32), w_X10_stuck_L23 v1 p0_fieldSize p0_hasField p0_steps p0_next post K n v2 p0_leads → ∀ (H : Heap) (locs : List Loc) (ls : Array Slot), va_P (dC, dI) vwCl (wld_X10_stuck cI cJ cZ h_p0 ad_p0 p0_places p0_steps p0_pastFirst p0_past p0_goings p0_rowSize p0_ways p0_hasField p0_fieldSize p0_faultNow p0_hasTree p0_treeSize p0_weightCount p0_roundCount p0_setCount p0_leads p0_next) H → va_D A (wld_X10_stuck cI cJ cZ h_p0 ad_p0 p0_places p0_steps p0_pastFirst p0_past p0_goings p0_rowSize p0_ways p0_hasField p0_fieldSize p0_faultNow p0_hasTree p0_treeSize p0_weightCount p0_roundCount p0_setCount p0_leads p0_next) → va_S A s.heap H locs → lv_has ls 3 [(0, .ref h_p0), (1, .int v1), (2, .int v2)] → W p l e ({ frames := 1, cells := 0, slots := 0, locals := 24 }) s m args below meth c H locs 0 0 (MQ below (q_X10_stuck dC dI cI cJ cZ h_p0 ad_p0 p0_places p0_steps p0_pastFirst p0_past p0_goings p0_rowSize p0_ways p0_hasField p0_fieldSize p0_faultNow p0_hasTree p0_treeSize p0_weightCount p0_roundCount p0_setCount z_p0_leads p0_next post A) args s 0 0 A) (F0 m 23 ls []) := by
  obtain ⟨hx, hb, hr, hml, hown, hts, hlocks, hK, hA, n1, n2⟩ := id E0
  have iX10 : ∀ w ∈ u_ws RX10 TX10 50, w ∈ wsX10_stuck := fun w h => List.mem_cons_of_mem _ (List.mem_append_right _ h)
  intro n
  induction n with
  | zero => intro v2 p0_leads hw; exact hw.elim
  | succ n ih =>
    intro v2 p0_leads hw H locs ls hP hD hS hl
    have hw : w_X10_stuck_L23b v1 p0_fieldSize p0_hasField p0_steps p0_next post K (w_X10_stuck_L23 v1 p0_fieldSize p0_hasField p0_steps p0_next post K n) v2 p0_leads := hw
    unfold w_X10_stuck_L23b at hw
    refine lv_iload_n hx hb dX10_stuck_23 rfl (lv_at hl 2 rfl) ?_
    refine lv_aload_n hx hb dX10_stuck_24 rfl (lv_at hl 0 rfl) ?_
    refine va_get (D := (dC, dI)) (ci := 10) (v := .int p0_fieldSize) (C := RX10) (T := TX10) (N := 50) hx hb hts iX10 hown hK hP 0 rfl rfl 25 (by decide) (hts (.fieldLink RX10 124 "NetHouseModel" "fieldSize" "I") (by decide +kernel)) (fun _ h9 => h9) rfl dX10_stuck_25 ?_
    refine lv_icmp_ge (tgt := 64) hx hb dX10_stuck_28 (by decide) (fun c6 => ?_) (fun c7 => ?_)
    · have hw := hw.1 c6
      exact hk _ _ _ _ _ hw hP hD hS (lv_sub hl [0] rfl)
    · have hw := hw.2 c7
      refine lv_aload_n hx hb dX10_stuck_31 rfl (lv_at hl 0 rfl) ?_
      refine va_get (D := (dC, dI)) (ci := 10) (v := .ref (ad_p0 32)) (C := RX10) (T := TX10) (N := 50) hx hb hts iX10 hown hK hP 0 rfl rfl 32 (by decide) (hts (.fieldLink RX10 81 "NetHouseModel" "leads" "[Z") (by decide +kernel)) (fun _ h9 => h9) rfl dX10_stuck_32 ?_
      refine lv_iload_n hx hb dX10_stuck_35 rfl (lv_at hl 2 rfl) ?_
      refine lv_aload_n hx hb dX10_stuck_36 rfl (lv_at hl 0 rfl) ?_
      refine va_get (D := (dC, dI)) (ci := 10) (v := .ref (ad_p0 30)) (C := RX10) (T := TX10) (N := 50) hx hb hts iX10 hown hK hP 0 rfl rfl 30 (by decide) (hts (.fieldLink RX10 75 "NetHouseModel" "next" "[I") (by decide +kernel)) (fun _ h9 => h9) rfl dX10_stuck_37 ?_
      refine lv_bipush (v := 16) hx hb dX10_stuck_40 (by decide) ?_
      refine lv_iload_n hx hb dX10_stuck_42 rfl (lv_at hl 2 rfl) ?_
      refine lv_imul hx hb dX10_stuck_43 ?_
      refine lv_iload_n hx hb dX10_stuck_44 rfl (lv_at hl 1 rfl) ?_
      refine lv_iadd hx hb dX10_stuck_45 ?_
      refine va_iald hx hb hK hP 2 0 rfl rfl hw.1 dX10_stuck_46 ?_
      have hw := hw.2
      refine lv_ldc (v := -2000000005) hx hb hown (hts (.constant RX10 85 (-2000000005)) (by decide +kernel)) dX10_stuck_47 ?_
      refine lv_icmp_eq (tgt := 56) hx hb dX10_stuck_49 (by decide) (fun c8 => ?_) (fun c9 => ?_)
      · have hw := hw.1 c8
        refine lv_iconst (v := 0) hx hb dX10_stuck_56 (by decide) ?_
        refine va_zast hx hb hK hP hD hS 1 2 rfl rfl hw.1 dX10_stuck_57 (fun H locs hP hD hS => ?_)
        have hw := hw.2
        have hP : va_P (dC, dI) vwCl (wld_X10_stuck cI cJ cZ h_p0 ad_p0 p0_places p0_steps p0_pastFirst p0_past p0_goings p0_rowSize p0_ways p0_hasField p0_fieldSize p0_faultNow p0_hasTree p0_treeSize p0_weightCount p0_roundCount p0_setCount (upd p0_leads v2.toNatClampNeg (vp_nar .boolean (0 : Int32))) p0_next) H := hP
        have hD : va_D A (wld_X10_stuck cI cJ cZ h_p0 ad_p0 p0_places p0_steps p0_pastFirst p0_past p0_goings p0_rowSize p0_ways p0_hasField p0_fieldSize p0_faultNow p0_hasTree p0_treeSize p0_weightCount p0_roundCount p0_setCount (upd p0_leads v2.toNatClampNeg (vp_nar .boolean (0 : Int32))) p0_next) := hD
        obtain ⟨x10, ex10⟩ : ∃ y : Int32, y = v2 + (1 : Int32) := ⟨_, rfl⟩
        have hw := hw x10 ex10
        refine lv_iinc (v := x10) (lv' := [(2, .int x10), (0, .ref h_p0), (1, .int v1)]) hx hb dX10_stuck_58 hl (k := 2) rfl (by rw [ex10]; rfl) (by decide) rfl (fun ls hl => ?_)
        refine lv_goto (tgt := 23) hx hb dX10_stuck_61 (by decide) ?_
        exact ih _ _ hw _ _ _ hP hD hS (lv_sub hl [1, 2, 0] rfl)
      · have hw := hw.2 c9
        refine lv_iconst (v := 1) hx hb dX10_stuck_52 (by decide) ?_
        refine lv_goto (tgt := 57) hx hb dX10_stuck_53 (by decide) ?_
        refine va_zast hx hb hK hP hD hS 1 2 rfl rfl hw.1 dX10_stuck_57 (fun H locs hP hD hS => ?_)
        have hw := hw.2
        have hP : va_P (dC, dI) vwCl (wld_X10_stuck cI cJ cZ h_p0 ad_p0 p0_places p0_steps p0_pastFirst p0_past p0_goings p0_rowSize p0_ways p0_hasField p0_fieldSize p0_faultNow p0_hasTree p0_treeSize p0_weightCount p0_roundCount p0_setCount (upd p0_leads v2.toNatClampNeg (vp_nar .boolean (1 : Int32))) p0_next) H := hP
        have hD : va_D A (wld_X10_stuck cI cJ cZ h_p0 ad_p0 p0_places p0_steps p0_pastFirst p0_past p0_goings p0_rowSize p0_ways p0_hasField p0_fieldSize p0_faultNow p0_hasTree p0_treeSize p0_weightCount p0_roundCount p0_setCount (upd p0_leads v2.toNatClampNeg (vp_nar .boolean (1 : Int32))) p0_next) := hD
        obtain ⟨x11, ex11⟩ : ∃ y : Int32, y = v2 + (1 : Int32) := ⟨_, rfl⟩
        have hw := hw x11 ex11
        refine lv_iinc (v := x11) (lv' := [(2, .int x11), (0, .ref h_p0), (1, .int v1)]) hx hb dX10_stuck_58 hl (k := 2) rfl (by rw [ex11]; rfl) (by decide) rfl (fun ls hl => ?_)
        refine lv_goto (tgt := 23) hx hb dX10_stuck_61 (by decide) ?_
        exact ih _ _ hw _ _ _ hP hD hS (lv_sub hl [1, 2, 0] rfl)
set_option maxHeartbeats 4000000 in
set_option maxRecDepth 100000 in
theorem c_X10_stuck {l : Launch} {dC : Nat → ClassId} {dI : Nat → Nat → Nat} {sz : Nat} {cI cJ cZ : ClassId} {h_p0 : Nat} {ad_p0 : Nat → Nat} {p0_places : Int32} {p0_steps : Int32} {p0_pastFirst : Int32} {p0_past : Int32} {p0_goings : Int32} {p0_rowSize : Int32} {p0_ways : Int32} {p0_hasField : Int32} {p0_fieldSize : Int32} {p0_faultNow : Int32} {p0_hasTree : Int32} {p0_treeSize : Int32} {p0_weightCount : Int32} {p0_roundCount : Int32} {p0_setCount : Int32} {p0_leads : Nat → Int32} {p0_next : Nat → Int32} {a1 : Int32} {post : Int32 → (Nat → Int32) → Prop} (hw : w_X10_stuck p0_fieldSize p0_hasField p0_steps p0_leads p0_next a1 post) : Met l yX10_stuck wsX10_stuck ({ frames := 1, cells := 0, slots := 0, locals := 24 }) (va_Pc [.ref h_p0, .int a1] (xPre (dC, dI) cI cJ cZ (wld_X10_stuck cI cJ cZ h_p0 ad_p0 p0_places p0_steps p0_pastFirst p0_past p0_goings p0_rowSize p0_ways p0_hasField p0_fieldSize p0_faultNow p0_hasTree p0_treeSize p0_weightCount p0_roundCount p0_setCount p0_leads p0_next) sz)) (q_X10_stuck dC dI cI cJ cZ h_p0 ad_p0 p0_places p0_steps p0_pastFirst p0_past p0_goings p0_rowSize p0_ways p0_hasField p0_fieldSize p0_faultNow p0_hasTree p0_treeSize p0_weightCount p0_roundCount p0_setCount p0_leads p0_next post (va_A (wld_X10_stuck cI cJ cZ h_p0 ad_p0 p0_places p0_steps p0_pastFirst p0_past p0_goings p0_rowSize p0_ways p0_hasField p0_fieldSize p0_faultNow p0_hasTree p0_treeSize p0_weightCount p0_roundCount p0_setCount p0_leads p0_next) sz)) 0 0 (va_A (wld_X10_stuck cI cJ cZ h_p0 ad_p0 p0_places p0_steps p0_pastFirst p0_past p0_goings p0_rowSize p0_ways p0_hasField p0_fieldSize p0_faultNow p0_hasTree p0_treeSize p0_weightCount p0_roundCount p0_setCount p0_leads p0_next) sz) := by
  refine x_met (cc := cX10_stuck) (maxL := 3) (ret := (some .int)) (own := RX10) (Qc := fun A => (q_X10_stuck dC dI cI cJ cZ h_p0 ad_p0 p0_places p0_steps p0_pastFirst p0_past p0_goings p0_rowSize p0_ways p0_hasField p0_fieldSize p0_faultNow p0_hasTree p0_treeSize p0_weightCount p0_roundCount p0_setCount p0_leads p0_next post A)) (by decide) rfl rfl (Nat.le_of_ble_eq_true rfl) ?_
  intro p e s m args below meth c A ls E0 hP hD hS hl
  obtain ⟨hx, hb, hr, hml, hown, hts, hlocks, hK, hA, n1, n2⟩ := id E0
  have iX10 : ∀ w ∈ u_ws RX10 TX10 50, w ∈ wsX10_stuck := fun w h => List.mem_cons_of_mem _ (List.mem_append_right _ h)
  have hS0 := hS
  have hl : lv_has ls 3 [(0, .ref h_p0), (1, .int a1)] := hl
  unfold w_X10_stuck at hw
  obtain ⟨H, hH⟩ : ∃ H, H = s.heap := ⟨_, rfl⟩
  have hS : va_S A s.heap H [] := by rw [hH]; exact hS
  have hP : va_P (dC, dI) vwCl (wld_X10_stuck cI cJ cZ h_p0 ad_p0 p0_places p0_steps p0_pastFirst p0_past p0_goings p0_rowSize p0_ways p0_hasField p0_fieldSize p0_faultNow p0_hasTree p0_treeSize p0_weightCount p0_roundCount p0_setCount p0_leads p0_next) H := by rw [hH]; exact hP
  suffices hG : W p l e ({ frames := 1, cells := 0, slots := 0, locals := 24 }) s m args below meth c H [] 0 0 (MQ below (q_X10_stuck dC dI cI cJ cZ h_p0 ad_p0 p0_places p0_steps p0_pastFirst p0_past p0_goings p0_rowSize p0_ways p0_hasField p0_fieldSize p0_faultNow p0_hasTree p0_treeSize p0_weightCount p0_roundCount p0_setCount p0_leads p0_next post A) args s 0 0 A) (F0 m 0 ls []) by rw [hH] at hG; exact hG
  clear hH
  refine lv_aload_n hx hb dX10_stuck_0 rfl (lv_at hl 0 rfl) ?_
  refine lv_iload_n hx hb dX10_stuck_1 rfl (lv_at hl 1 rfl) ?_
  obtain ⟨hPc, hDc⟩ := x_sub (wc := (wld_X10_isStep cI cJ cZ h_p0 ad_p0 p0_places p0_steps p0_pastFirst p0_past p0_goings p0_rowSize p0_ways p0_hasField p0_fieldSize p0_faultNow p0_hasTree p0_treeSize p0_weightCount p0_roundCount p0_setCount)) hP hD [0] (n := 3) rfl rfl (by decide +kernel)
  refine x_calli (ws' := fun (u : Unit) => (wld_X10_stuck cI cJ cZ h_p0 ad_p0 p0_places p0_steps p0_pastFirst p0_past p0_goings p0_rowSize p0_ways p0_hasField p0_fieldSize p0_faultNow p0_hasTree p0_treeSize p0_weightCount p0_roundCount p0_setCount p0_leads p0_next)) hP hD hS hA [0] [1, 2] [2, 0, 1] (n := 3) (k := 1) rfl (fun _ => rfl) rfl (by decide +kernel) (fun _ => rfl) (va_runV (As := [.int a1]) (rest := []) ⟨hx, hb, hml, hown, hts⟩ (c_X10_isStep (l := l) (dC := dC) (dI := dI) (cI := cI) (cJ := cJ) (cZ := cZ) (sz := H.size) (h_p0 := h_p0) (ad_p0 := ad_p0) (p0_places := p0_places) (p0_steps := p0_steps) (p0_pastFirst := p0_pastFirst) (p0_past := p0_past) (p0_goings := p0_goings) (p0_rowSize := p0_rowSize) (p0_ways := p0_ways) (p0_hasField := p0_hasField) (p0_fieldSize := p0_fieldSize) (p0_faultNow := p0_faultNow) (p0_hasTree := p0_hasTree) (p0_treeSize := p0_treeSize) (p0_weightCount := p0_weightCount) (p0_roundCount := p0_roundCount) (p0_setCount := p0_setCount) hw) (cwV 1 hts gX10_stuck_X10_isStep rfl rfl rfl (by decide +kernel) ⟨Nat.le_of_ble_eq_true rfl, Nat.le_of_ble_eq_true rfl⟩) ⟨xPre_blind, va_recv hK hP (ci := 10) (q0 := 0) rfl rfl, xPre_at hK hPc hDc n1 n2⟩ rfl rfl hl.1 rfl (lv_room (Nat.le_of_ble_eq_true rfl)) dX10_stuck_2 ⟨Nat.zero_le _, Nat.zero_le _⟩) (fun r1 u H locs hw hP hD hS => ?_)
  try dsimp only at hw
  have hP : va_P (dC, dI) vwCl (wld_X10_stuck cI cJ cZ h_p0 ad_p0 p0_places p0_steps p0_pastFirst p0_past p0_goings p0_rowSize p0_ways p0_hasField p0_fieldSize p0_faultNow p0_hasTree p0_treeSize p0_weightCount p0_roundCount p0_setCount p0_leads p0_next) H := hP
  have hD : va_D A (wld_X10_stuck cI cJ cZ h_p0 ad_p0 p0_places p0_steps p0_pastFirst p0_past p0_goings p0_rowSize p0_ways p0_hasField p0_fieldSize p0_faultNow p0_hasTree p0_treeSize p0_weightCount p0_roundCount p0_setCount p0_leads p0_next) := hD
  refine lv_if_ne (tgt := 11) hx hb dX10_stuck_5 (by decide) (fun c2 => ?_) (fun c3 => ?_)
  · have hw := hw.1 c2
    refine lv_aload_n hx hb dX10_stuck_11 rfl (lv_at hl 0 rfl) ?_
    refine va_get (D := (dC, dI)) (ci := 10) (v := .int p0_hasField) (C := RX10) (T := TX10) (N := 50) hx hb hts iX10 hown hK hP 0 rfl rfl 24 (by decide) (hts (.fieldLink RX10 133 "NetHouseModel" "hasField" "Z") (by decide +kernel)) (fun _ h9 => h9) rfl dX10_stuck_12 ?_
    refine lv_if_ne (tgt := 21) hx hb dX10_stuck_15 (by decide) (fun c4 => ?_) (fun c5 => ?_)
    · have hw := hw.1 c4
      refine lv_iconst (v := 0) hx hb dX10_stuck_21 (by decide) ?_
      refine lv_istore_n (lv' := [(2, .int (0 : Int32)), (0, .ref h_p0), (1, .int a1)]) hx hb dX10_stuck_22 rfl hl (by decide) rfl (fun ls hl => ?_)
      obtain ⟨n12, hw⟩ := hw
      refine c_X10_stuck_L23 (l := l) (z_p0_leads := p0_leads) E0 ?_ n12 _ _ hw _ _ _ hP hD hS (lv_sub hl [1, 2, 0] rfl)
      · intro v13 s14 H locs ls hw hP hD hS hl
        have hP : va_P (dC, dI) vwCl (wld_X10_stuck cI cJ cZ h_p0 ad_p0 p0_places p0_steps p0_pastFirst p0_past p0_goings p0_rowSize p0_ways p0_hasField p0_fieldSize p0_faultNow p0_hasTree p0_treeSize p0_weightCount p0_roundCount p0_setCount s14 p0_next) H := hP
        have hD : va_D A (wld_X10_stuck cI cJ cZ h_p0 ad_p0 p0_places p0_steps p0_pastFirst p0_past p0_goings p0_rowSize p0_ways p0_hasField p0_fieldSize p0_faultNow p0_hasTree p0_treeSize p0_weightCount p0_roundCount p0_setCount s14 p0_next) := hD
        refine lv_aload_n hx hb dX10_stuck_64 rfl (lv_at hl 0 rfl) ?_
        obtain ⟨hPc, hDc⟩ := x_sub (wc := (wld_X10_spread cI cJ cZ h_p0 ad_p0 p0_places p0_steps p0_pastFirst p0_past p0_goings p0_rowSize p0_ways p0_hasField p0_fieldSize p0_faultNow p0_hasTree p0_treeSize p0_weightCount p0_roundCount p0_setCount s14 p0_next)) hP hD [0, 1, 2] (n := 3) rfl rfl (by decide +kernel)
        refine x_callv (ws' := fun (u : (Nat → Int32)) => (wld_X10_stuck cI cJ cZ h_p0 ad_p0 p0_places p0_steps p0_pastFirst p0_past p0_goings p0_rowSize p0_ways p0_hasField p0_fieldSize p0_faultNow p0_hasTree p0_treeSize p0_weightCount p0_roundCount p0_setCount u p0_next)) hP hD hS hA [0, 1, 2] [] [0, 1, 2] (n := 3) (k := 3) rfl (fun _ => rfl) rfl (by decide +kernel) (fun _ => rfl) (va_runV (As := []) (rest := []) ⟨hx, hb, hml, hown, hts⟩ (c_X10_spread (l := l) (dC := dC) (dI := dI) (cI := cI) (cJ := cJ) (cZ := cZ) (sz := H.size) (h_p0 := h_p0) (ad_p0 := ad_p0) (p0_places := p0_places) (p0_steps := p0_steps) (p0_pastFirst := p0_pastFirst) (p0_past := p0_past) (p0_goings := p0_goings) (p0_rowSize := p0_rowSize) (p0_ways := p0_ways) (p0_hasField := p0_hasField) (p0_fieldSize := p0_fieldSize) (p0_faultNow := p0_faultNow) (p0_hasTree := p0_hasTree) (p0_treeSize := p0_treeSize) (p0_weightCount := p0_weightCount) (p0_roundCount := p0_roundCount) (p0_setCount := p0_setCount) (p0_leads := s14) (p0_next := p0_next) hw) (cwV 0 hts gX10_stuck_X10_spread rfl rfl rfl (by decide +kernel) ⟨Nat.le_of_ble_eq_true rfl, Nat.le_of_ble_eq_true rfl⟩) ⟨xPre_blind, va_recv hK hP (ci := 10) (q0 := 0) rfl rfl, xPre_at hK hPc hDc n1 n2⟩ rfl rfl hl.1 rfl (lv_room (Nat.le_of_ble_eq_true rfl)) dX10_stuck_65 ⟨Nat.zero_le _, Nat.zero_le _⟩) (fun u H locs hw hP hD hS => ?_)
        obtain ⟨y15, rfl⟩ : ∃ z, z = u := ⟨_, rfl⟩
        try dsimp only at hw
        have hP : va_P (dC, dI) vwCl (wld_X10_stuck cI cJ cZ h_p0 ad_p0 p0_places p0_steps p0_pastFirst p0_past p0_goings p0_rowSize p0_ways p0_hasField p0_fieldSize p0_faultNow p0_hasTree p0_treeSize p0_weightCount p0_roundCount p0_setCount y15 p0_next) H := hP
        have hD : va_D A (wld_X10_stuck cI cJ cZ h_p0 ad_p0 p0_places p0_steps p0_pastFirst p0_past p0_goings p0_rowSize p0_ways p0_hasField p0_fieldSize p0_faultNow p0_hasTree p0_treeSize p0_weightCount p0_roundCount p0_setCount y15 p0_next) := hD
        refine lv_aload_n hx hb dX10_stuck_68 rfl (lv_at hl 0 rfl) ?_
        obtain ⟨hPc, hDc⟩ := x_sub (wc := (wld_X10_leastOut cI cJ cZ h_p0 ad_p0 p0_places p0_steps p0_pastFirst p0_past p0_goings p0_rowSize p0_ways p0_hasField p0_fieldSize p0_faultNow p0_hasTree p0_treeSize p0_weightCount p0_roundCount p0_setCount y15)) hP hD [0, 1] (n := 3) rfl rfl (by decide +kernel)
        refine x_calli (ws' := fun (u : Unit) => (wld_X10_stuck cI cJ cZ h_p0 ad_p0 p0_places p0_steps p0_pastFirst p0_past p0_goings p0_rowSize p0_ways p0_hasField p0_fieldSize p0_faultNow p0_hasTree p0_treeSize p0_weightCount p0_roundCount p0_setCount y15 p0_next)) hP hD hS hA [0, 1] [2] [1, 2, 0] (n := 3) (k := 2) rfl (fun _ => rfl) rfl (by decide +kernel) (fun _ => rfl) (va_runV (As := []) (rest := []) ⟨hx, hb, hml, hown, hts⟩ (c_X10_leastOut (l := l) (dC := dC) (dI := dI) (cI := cI) (cJ := cJ) (cZ := cZ) (sz := H.size) (h_p0 := h_p0) (ad_p0 := ad_p0) (p0_places := p0_places) (p0_steps := p0_steps) (p0_pastFirst := p0_pastFirst) (p0_past := p0_past) (p0_goings := p0_goings) (p0_rowSize := p0_rowSize) (p0_ways := p0_ways) (p0_hasField := p0_hasField) (p0_fieldSize := p0_fieldSize) (p0_faultNow := p0_faultNow) (p0_hasTree := p0_hasTree) (p0_treeSize := p0_treeSize) (p0_weightCount := p0_weightCount) (p0_roundCount := p0_roundCount) (p0_setCount := p0_setCount) (p0_leads := y15) hw) (cwV 0 hts gX10_stuck_X10_leastOut rfl rfl rfl (by decide +kernel) ⟨Nat.le_of_ble_eq_true rfl, Nat.le_of_ble_eq_true rfl⟩) ⟨xPre_blind, va_recv hK hP (ci := 10) (q0 := 0) rfl rfl, xPre_at hK hPc hDc n1 n2⟩ rfl rfl hl.1 rfl (lv_room (Nat.le_of_ble_eq_true rfl)) dX10_stuck_69 ⟨Nat.zero_le _, Nat.zero_le _⟩) (fun r16 u H locs hw hP hD hS => ?_)
        try dsimp only at hw
        have hP : va_P (dC, dI) vwCl (wld_X10_stuck cI cJ cZ h_p0 ad_p0 p0_places p0_steps p0_pastFirst p0_past p0_goings p0_rowSize p0_ways p0_hasField p0_fieldSize p0_faultNow p0_hasTree p0_treeSize p0_weightCount p0_roundCount p0_setCount y15 p0_next) H := hP
        have hD : va_D A (wld_X10_stuck cI cJ cZ h_p0 ad_p0 p0_places p0_steps p0_pastFirst p0_past p0_goings p0_rowSize p0_ways p0_hasField p0_fieldSize p0_faultNow p0_hasTree p0_treeSize p0_weightCount p0_roundCount p0_setCount y15 p0_next) := hD
        exact x_iret (w1 := fun (u : (Nat → Int32)) => (wld_X10_stuck cI cJ cZ h_p0 ad_p0 p0_places p0_steps p0_pastFirst p0_past p0_goings p0_rowSize p0_ways p0_hasField p0_fieldSize p0_faultNow p0_hasTree p0_treeSize p0_weightCount p0_roundCount p0_setCount u p0_next)) hx hb hr hlocks (y15) hw hP hD hS dX10_stuck_72
    · have hw := hw.2 c5
      refine lv_ldc (v := -2000000002) hx hb hown (hts (.constant RX10 171 (-2000000002)) (by decide +kernel)) dX10_stuck_18 ?_
      exact x_iret (w1 := fun (u : (Nat → Int32)) => (wld_X10_stuck cI cJ cZ h_p0 ad_p0 p0_places p0_steps p0_pastFirst p0_past p0_goings p0_rowSize p0_ways p0_hasField p0_fieldSize p0_faultNow p0_hasTree p0_treeSize p0_weightCount p0_roundCount p0_setCount u p0_next)) hx hb hr hlocks (p0_leads) hw hP hD hS dX10_stuck_20
  · have hw := hw.2 c3
    refine lv_ldc (v := -2000000001) hx hb hown (hts (.constant RX10 159 (-2000000001)) (by decide +kernel)) dX10_stuck_8 ?_
    exact x_iret (w1 := fun (u : (Nat → Int32)) => (wld_X10_stuck cI cJ cZ h_p0 ad_p0 p0_places p0_steps p0_pastFirst p0_past p0_goings p0_rowSize p0_ways p0_hasField p0_fieldSize p0_faultNow p0_hasTree p0_treeSize p0_weightCount p0_roundCount p0_setCount u p0_next)) hx hb hr hlocks (p0_leads) hw hP hD hS dX10_stuck_10
abbrev wld_X10_leastNotTo (cI cJ cZ : ClassId) (h_p0 : Nat) (ad_p0 : Nat → Nat) (p0_places : Int32) (p0_steps : Int32) (p0_pastFirst : Int32) (p0_past : Int32) (p0_goings : Int32) (p0_rowSize : Int32) (p0_ways : Int32) (p0_hasField : Int32) (p0_fieldSize : Int32) (p0_faultNow : Int32) (p0_hasTree : Int32) (p0_treeSize : Int32) (p0_weightCount : Int32) (p0_roundCount : Int32) (p0_setCount : Int32) (p0_leads : Nat → Int32) (p0_next : Nat → Int32) : va_W := [(h_p0, .inr (10, [.int p0_places, .int p0_steps, .ref (ad_p0 2), .ref (ad_p0 3), .ref (ad_p0 4), .ref (ad_p0 5), .ref (ad_p0 6), .ref (ad_p0 7), .ref (ad_p0 8), .ref (ad_p0 9), .ref (ad_p0 10), .ref (ad_p0 11), .ref (ad_p0 12), .ref (ad_p0 13), .ref (ad_p0 14), .int p0_pastFirst, .int p0_past, .int p0_goings, .int p0_rowSize, .ref (ad_p0 19), .ref (ad_p0 20), .int p0_ways, .ref (ad_p0 22), .ref (ad_p0 23), .int p0_hasField, .int p0_fieldSize, .ref (ad_p0 26), .ref (ad_p0 27), .ref (ad_p0 28), .ref (ad_p0 29), .ref (ad_p0 30), .ref (ad_p0 31), .ref (ad_p0 32), .int p0_faultNow, .int p0_hasTree, .int p0_treeSize, .ref (ad_p0 36), .ref (ad_p0 37), .ref (ad_p0 38), .ref (ad_p0 39), .ref (ad_p0 40), .ref (ad_p0 41), .ref (ad_p0 42), .int p0_weightCount, .ref (ad_p0 44), .int p0_roundCount, .ref (ad_p0 46), .int p0_setCount, .ref (ad_p0 48), .ref (ad_p0 49)])), ((ad_p0 32), .inl (cZ, 8000, .inl p0_leads)), ((ad_p0 30), .inl (cI, 128000, .inl p0_next))]
abbrev q_X10_leastNotTo (dC : Nat → ClassId) (dI : Nat → Nat → Nat) (cI cJ cZ : ClassId) (h_p0 : Nat) (ad_p0 : Nat → Nat) (p0_places : Int32) (p0_steps : Int32) (p0_pastFirst : Int32) (p0_past : Int32) (p0_goings : Int32) (p0_rowSize : Int32) (p0_ways : Int32) (p0_hasField : Int32) (p0_fieldSize : Int32) (p0_faultNow : Int32) (p0_hasTree : Int32) (p0_treeSize : Int32) (p0_weightCount : Int32) (p0_roundCount : Int32) (p0_setCount : Int32) (p0_leads : Nat → Int32) (p0_next : Nat → Int32) (post : Int32 → (Nat → Int32) → Prop) (A : Nat → Prop) : Array Value → State → Outcome → State → Prop := va_Qi (fun r (u : (Nat → Int32)) => post r u) (fun (u : (Nat → Int32)) t => xPost (dC, dI) A (wld_X10_leastNotTo cI cJ cZ h_p0 ad_p0 p0_places p0_steps p0_pastFirst p0_past p0_goings p0_rowSize p0_ways p0_hasField p0_fieldSize p0_faultNow p0_hasTree p0_treeSize p0_weightCount p0_roundCount p0_setCount u p0_next) t) A
def w_X10_leastNotTo_L2b (v1 : Int32) (p0_fieldSize : Int32) (p0_steps : Int32) (p0_next : Nat → Int32) (post : Int32 → (Nat → Int32) → Prop) (K : (Int32) → (Nat → Int32) → Prop) (rec : (Int32) → (Nat → Int32) → Prop) (v2 : Int32) (p0_leads : Nat → Int32) : Prop :=
    (p0_fieldSize ≤ v2 →
      K v2 p0_leads) ∧
    (¬ p0_fieldSize ≤ v2 →
      (¬ v2 = v1 →
        vp_in v2 8000 ∧
        ∀ x5 : Int32, x5 = v2 + (1 : Int32) →
        rec x5 (upd p0_leads v2.toNatClampNeg (vp_nar .boolean (0 : Int32)))) ∧
      (v2 = v1 →
        vp_in v2 8000 ∧
        ∀ x6 : Int32, x6 = v2 + (1 : Int32) →
        rec x6 (upd p0_leads v2.toNatClampNeg (vp_nar .boolean (1 : Int32)))))
def w_X10_leastNotTo_L2 (v1 : Int32) (p0_fieldSize : Int32) (p0_steps : Int32) (p0_next : Nat → Int32) (post : Int32 → (Nat → Int32) → Prop) (K : (Int32) → (Nat → Int32) → Prop) : Nat → (Int32) → (Nat → Int32) → Prop
  | 0, _, _ => False
  | n + 1, v2, p0_leads => w_X10_leastNotTo_L2b v1 p0_fieldSize p0_steps p0_next post K (w_X10_leastNotTo_L2 v1 p0_fieldSize p0_steps p0_next post K n) v2 p0_leads
def w_X10_leastNotTo (p0_fieldSize : Int32) (p0_steps : Int32) (p0_leads : Nat → Int32) (p0_next : Nat → Int32) (a1 : Int32) (post : Int32 → (Nat → Int32) → Prop) : Prop :=
  ∃ n : Nat, w_X10_leastNotTo_L2 a1 p0_fieldSize p0_steps p0_next post (fun v8 s9 =>
      w_X10_spread p0_fieldSize p0_steps s9 p0_next (fun y10 =>
      w_X10_leastOut p0_fieldSize y10 (fun r11 =>
      (post r11 y10)))) n (0 : Int32) p0_leads
set_option maxHeartbeats 4000000 in
set_option maxRecDepth 100000 in
theorem c_X10_leastNotTo_L2 {p : Program} {l : Launch} {e : Env} {s : State} {m : MethodId} {args : Array Value} {below : List Frame} {meth : Method} {c : Code} {dC : Nat → ClassId} {dI : Nat → Nat → Nat} {A : Nat → Prop} {cI cJ cZ : ClassId} {h_p0 : Nat} {ad_p0 : Nat → Nat} {p0_places : Int32} {p0_steps : Int32} {p0_pastFirst : Int32} {p0_past : Int32} {p0_goings : Int32} {p0_rowSize : Int32} {p0_ways : Int32} {p0_hasField : Int32} {p0_fieldSize : Int32} {p0_faultNow : Int32} {p0_hasTree : Int32} {p0_treeSize : Int32} {p0_weightCount : Int32} {p0_roundCount : Int32} {p0_setCount : Int32} {p0_next : Nat → Int32} {v1 : Int32} {z_p0_leads : Nat → Int32} {post : Int32 → (Nat → Int32) → Prop} {K : (Int32) → (Nat → Int32) → Prop} (E0 : xEnv p s m args meth c cX10_leastNotTo (some .int) 3 RX10 wsX10_leastNotTo (dC, dI) cI cJ cZ A) (hk : ∀ (v2 : Int32) (p0_leads : Nat → Int32) (H : Heap) (locs : List Loc) (ls : Array Slot), K v2 p0_leads → va_P (dC, dI) vwCl (wld_X10_leastNotTo cI cJ cZ h_p0 ad_p0 p0_places p0_steps p0_pastFirst p0_past p0_goings p0_rowSize p0_ways p0_hasField p0_fieldSize p0_faultNow p0_hasTree p0_treeSize p0_weightCount p0_roundCount p0_setCount p0_leads p0_next) H → va_D A (wld_X10_leastNotTo cI cJ cZ h_p0 ad_p0 p0_places p0_steps p0_pastFirst p0_past p0_goings p0_rowSize p0_ways p0_hasField p0_fieldSize p0_faultNow p0_hasTree p0_treeSize p0_weightCount p0_roundCount p0_setCount p0_leads p0_next) → va_S A s.heap H locs → lv_has ls 3 [(0, .ref h_p0)] → W p l e ({ frames := 1, cells := 0, slots := 0, locals := 24 }) s m args below meth c H locs 0 0 (MQ below (q_X10_leastNotTo dC dI cI cJ cZ h_p0 ad_p0 p0_places p0_steps p0_pastFirst p0_past p0_goings p0_rowSize p0_ways p0_hasField p0_fieldSize p0_faultNow p0_hasTree p0_treeSize p0_weightCount p0_roundCount p0_setCount z_p0_leads p0_next post A) args s 0 0 A) (F0 m 32 ls [])) : ∀ (n : Nat) (v2 : Int32) (p0_leads : Nat → Int32), w_X10_leastNotTo_L2 v1 p0_fieldSize p0_steps p0_next post K n v2 p0_leads → ∀ (H : Heap) (locs : List Loc) (ls : Array Slot), va_P (dC, dI) vwCl (wld_X10_leastNotTo cI cJ cZ h_p0 ad_p0 p0_places p0_steps p0_pastFirst p0_past p0_goings p0_rowSize p0_ways p0_hasField p0_fieldSize p0_faultNow p0_hasTree p0_treeSize p0_weightCount p0_roundCount p0_setCount p0_leads p0_next) H → va_D A (wld_X10_leastNotTo cI cJ cZ h_p0 ad_p0 p0_places p0_steps p0_pastFirst p0_past p0_goings p0_rowSize p0_ways p0_hasField p0_fieldSize p0_faultNow p0_hasTree p0_treeSize p0_weightCount p0_roundCount p0_setCount p0_leads p0_next) → va_S A s.heap H locs → lv_has ls 3 [(0, .ref h_p0), (1, .int v1), (2, .int v2)] → W p l e ({ frames := 1, cells := 0, slots := 0, locals := 24 }) s m args below meth c H locs 0 0 (MQ below (q_X10_leastNotTo dC dI cI cJ cZ h_p0 ad_p0 p0_places p0_steps p0_pastFirst p0_past p0_goings p0_rowSize p0_ways p0_hasField p0_fieldSize p0_faultNow p0_hasTree p0_treeSize p0_weightCount p0_roundCount p0_setCount z_p0_leads p0_next post A) args s 0 0 A) (F0 m 2 ls []) := by
  obtain ⟨hx, hb, hr, hml, hown, hts, hlocks, hK, hA, n1, n2⟩ := id E0
  have iX10 : ∀ w ∈ u_ws RX10 TX10 50, w ∈ wsX10_leastNotTo := fun w h => List.mem_cons_of_mem _ (List.mem_append_right _ h)
  intro n
  induction n with
  | zero => intro v2 p0_leads hw; exact hw.elim
  | succ n ih =>
    intro v2 p0_leads hw H locs ls hP hD hS hl
    have hw : w_X10_leastNotTo_L2b v1 p0_fieldSize p0_steps p0_next post K (w_X10_leastNotTo_L2 v1 p0_fieldSize p0_steps p0_next post K n) v2 p0_leads := hw
    unfold w_X10_leastNotTo_L2b at hw
    refine lv_iload_n hx hb dX10_leastNotTo_2 rfl (lv_at hl 2 rfl) ?_
    refine lv_aload_n hx hb dX10_leastNotTo_3 rfl (lv_at hl 0 rfl) ?_
    refine va_get (D := (dC, dI)) (ci := 10) (v := .int p0_fieldSize) (C := RX10) (T := TX10) (N := 50) hx hb hts iX10 hown hK hP 0 rfl rfl 25 (by decide) (hts (.fieldLink RX10 124 "NetHouseModel" "fieldSize" "I") (by decide +kernel)) (fun _ h9 => h9) rfl dX10_leastNotTo_4 ?_
    refine lv_icmp_ge (tgt := 32) hx hb dX10_leastNotTo_7 (by decide) (fun c1 => ?_) (fun c2 => ?_)
    · have hw := hw.1 c1
      exact hk _ _ _ _ _ hw hP hD hS (lv_sub hl [0] rfl)
    · have hw := hw.2 c2
      refine lv_aload_n hx hb dX10_leastNotTo_10 rfl (lv_at hl 0 rfl) ?_
      refine va_get (D := (dC, dI)) (ci := 10) (v := .ref (ad_p0 32)) (C := RX10) (T := TX10) (N := 50) hx hb hts iX10 hown hK hP 0 rfl rfl 32 (by decide) (hts (.fieldLink RX10 81 "NetHouseModel" "leads" "[Z") (by decide +kernel)) (fun _ h9 => h9) rfl dX10_leastNotTo_11 ?_
      refine lv_iload_n hx hb dX10_leastNotTo_14 rfl (lv_at hl 2 rfl) ?_
      refine lv_iload_n hx hb dX10_leastNotTo_15 rfl (lv_at hl 2 rfl) ?_
      refine lv_iload_n hx hb dX10_leastNotTo_16 rfl (lv_at hl 1 rfl) ?_
      refine lv_icmp_ne (tgt := 24) hx hb dX10_leastNotTo_17 (by decide) (fun c3 => ?_) (fun c4 => ?_)
      · have hw := hw.1 c3
        refine lv_iconst (v := 0) hx hb dX10_leastNotTo_24 (by decide) ?_
        refine va_zast hx hb hK hP hD hS 1 2 rfl rfl hw.1 dX10_leastNotTo_25 (fun H locs hP hD hS => ?_)
        have hw := hw.2
        have hP : va_P (dC, dI) vwCl (wld_X10_leastNotTo cI cJ cZ h_p0 ad_p0 p0_places p0_steps p0_pastFirst p0_past p0_goings p0_rowSize p0_ways p0_hasField p0_fieldSize p0_faultNow p0_hasTree p0_treeSize p0_weightCount p0_roundCount p0_setCount (upd p0_leads v2.toNatClampNeg (vp_nar .boolean (0 : Int32))) p0_next) H := hP
        have hD : va_D A (wld_X10_leastNotTo cI cJ cZ h_p0 ad_p0 p0_places p0_steps p0_pastFirst p0_past p0_goings p0_rowSize p0_ways p0_hasField p0_fieldSize p0_faultNow p0_hasTree p0_treeSize p0_weightCount p0_roundCount p0_setCount (upd p0_leads v2.toNatClampNeg (vp_nar .boolean (0 : Int32))) p0_next) := hD
        obtain ⟨x5, ex5⟩ : ∃ y : Int32, y = v2 + (1 : Int32) := ⟨_, rfl⟩
        have hw := hw x5 ex5
        refine lv_iinc (v := x5) (lv' := [(2, .int x5), (0, .ref h_p0), (1, .int v1)]) hx hb dX10_leastNotTo_26 hl (k := 2) rfl (by rw [ex5]; rfl) (by decide) rfl (fun ls hl => ?_)
        refine lv_goto (tgt := 2) hx hb dX10_leastNotTo_29 (by decide) ?_
        exact ih _ _ hw _ _ _ hP hD hS (lv_sub hl [1, 2, 0] rfl)
      · have hw := hw.2 c4
        refine lv_iconst (v := 1) hx hb dX10_leastNotTo_20 (by decide) ?_
        refine lv_goto (tgt := 25) hx hb dX10_leastNotTo_21 (by decide) ?_
        refine va_zast hx hb hK hP hD hS 1 2 rfl rfl hw.1 dX10_leastNotTo_25 (fun H locs hP hD hS => ?_)
        have hw := hw.2
        have hP : va_P (dC, dI) vwCl (wld_X10_leastNotTo cI cJ cZ h_p0 ad_p0 p0_places p0_steps p0_pastFirst p0_past p0_goings p0_rowSize p0_ways p0_hasField p0_fieldSize p0_faultNow p0_hasTree p0_treeSize p0_weightCount p0_roundCount p0_setCount (upd p0_leads v2.toNatClampNeg (vp_nar .boolean (1 : Int32))) p0_next) H := hP
        have hD : va_D A (wld_X10_leastNotTo cI cJ cZ h_p0 ad_p0 p0_places p0_steps p0_pastFirst p0_past p0_goings p0_rowSize p0_ways p0_hasField p0_fieldSize p0_faultNow p0_hasTree p0_treeSize p0_weightCount p0_roundCount p0_setCount (upd p0_leads v2.toNatClampNeg (vp_nar .boolean (1 : Int32))) p0_next) := hD
        obtain ⟨x6, ex6⟩ : ∃ y : Int32, y = v2 + (1 : Int32) := ⟨_, rfl⟩
        have hw := hw x6 ex6
        refine lv_iinc (v := x6) (lv' := [(2, .int x6), (0, .ref h_p0), (1, .int v1)]) hx hb dX10_leastNotTo_26 hl (k := 2) rfl (by rw [ex6]; rfl) (by decide) rfl (fun ls hl => ?_)
        refine lv_goto (tgt := 2) hx hb dX10_leastNotTo_29 (by decide) ?_
        exact ih _ _ hw _ _ _ hP hD hS (lv_sub hl [1, 2, 0] rfl)
set_option maxHeartbeats 4000000 in
set_option maxRecDepth 100000 in
theorem c_X10_leastNotTo {l : Launch} {dC : Nat → ClassId} {dI : Nat → Nat → Nat} {sz : Nat} {cI cJ cZ : ClassId} {h_p0 : Nat} {ad_p0 : Nat → Nat} {p0_places : Int32} {p0_steps : Int32} {p0_pastFirst : Int32} {p0_past : Int32} {p0_goings : Int32} {p0_rowSize : Int32} {p0_ways : Int32} {p0_hasField : Int32} {p0_fieldSize : Int32} {p0_faultNow : Int32} {p0_hasTree : Int32} {p0_treeSize : Int32} {p0_weightCount : Int32} {p0_roundCount : Int32} {p0_setCount : Int32} {p0_leads : Nat → Int32} {p0_next : Nat → Int32} {a1 : Int32} {post : Int32 → (Nat → Int32) → Prop} (hw : w_X10_leastNotTo p0_fieldSize p0_steps p0_leads p0_next a1 post) : Met l yX10_leastNotTo wsX10_leastNotTo ({ frames := 1, cells := 0, slots := 0, locals := 24 }) (va_Pc [.ref h_p0, .int a1] (xPre (dC, dI) cI cJ cZ (wld_X10_leastNotTo cI cJ cZ h_p0 ad_p0 p0_places p0_steps p0_pastFirst p0_past p0_goings p0_rowSize p0_ways p0_hasField p0_fieldSize p0_faultNow p0_hasTree p0_treeSize p0_weightCount p0_roundCount p0_setCount p0_leads p0_next) sz)) (q_X10_leastNotTo dC dI cI cJ cZ h_p0 ad_p0 p0_places p0_steps p0_pastFirst p0_past p0_goings p0_rowSize p0_ways p0_hasField p0_fieldSize p0_faultNow p0_hasTree p0_treeSize p0_weightCount p0_roundCount p0_setCount p0_leads p0_next post (va_A (wld_X10_leastNotTo cI cJ cZ h_p0 ad_p0 p0_places p0_steps p0_pastFirst p0_past p0_goings p0_rowSize p0_ways p0_hasField p0_fieldSize p0_faultNow p0_hasTree p0_treeSize p0_weightCount p0_roundCount p0_setCount p0_leads p0_next) sz)) 0 0 (va_A (wld_X10_leastNotTo cI cJ cZ h_p0 ad_p0 p0_places p0_steps p0_pastFirst p0_past p0_goings p0_rowSize p0_ways p0_hasField p0_fieldSize p0_faultNow p0_hasTree p0_treeSize p0_weightCount p0_roundCount p0_setCount p0_leads p0_next) sz) := by
  refine x_met (cc := cX10_leastNotTo) (maxL := 3) (ret := (some .int)) (own := RX10) (Qc := fun A => (q_X10_leastNotTo dC dI cI cJ cZ h_p0 ad_p0 p0_places p0_steps p0_pastFirst p0_past p0_goings p0_rowSize p0_ways p0_hasField p0_fieldSize p0_faultNow p0_hasTree p0_treeSize p0_weightCount p0_roundCount p0_setCount p0_leads p0_next post A)) (by decide) rfl rfl (Nat.le_of_ble_eq_true rfl) ?_
  intro p e s m args below meth c A ls E0 hP hD hS hl
  obtain ⟨hx, hb, hr, hml, hown, hts, hlocks, hK, hA, n1, n2⟩ := id E0
  have iX10 : ∀ w ∈ u_ws RX10 TX10 50, w ∈ wsX10_leastNotTo := fun w h => List.mem_cons_of_mem _ (List.mem_append_right _ h)
  have hS0 := hS
  have hl : lv_has ls 3 [(0, .ref h_p0), (1, .int a1)] := hl
  unfold w_X10_leastNotTo at hw
  obtain ⟨H, hH⟩ : ∃ H, H = s.heap := ⟨_, rfl⟩
  have hS : va_S A s.heap H [] := by rw [hH]; exact hS
  have hP : va_P (dC, dI) vwCl (wld_X10_leastNotTo cI cJ cZ h_p0 ad_p0 p0_places p0_steps p0_pastFirst p0_past p0_goings p0_rowSize p0_ways p0_hasField p0_fieldSize p0_faultNow p0_hasTree p0_treeSize p0_weightCount p0_roundCount p0_setCount p0_leads p0_next) H := by rw [hH]; exact hP
  suffices hG : W p l e ({ frames := 1, cells := 0, slots := 0, locals := 24 }) s m args below meth c H [] 0 0 (MQ below (q_X10_leastNotTo dC dI cI cJ cZ h_p0 ad_p0 p0_places p0_steps p0_pastFirst p0_past p0_goings p0_rowSize p0_ways p0_hasField p0_fieldSize p0_faultNow p0_hasTree p0_treeSize p0_weightCount p0_roundCount p0_setCount p0_leads p0_next post A) args s 0 0 A) (F0 m 0 ls []) by rw [hH] at hG; exact hG
  clear hH
  refine lv_iconst (v := 0) hx hb dX10_leastNotTo_0 (by decide) ?_
  refine lv_istore_n (lv' := [(2, .int (0 : Int32)), (0, .ref h_p0), (1, .int a1)]) hx hb dX10_leastNotTo_1 rfl hl (by decide) rfl (fun ls hl => ?_)
  obtain ⟨n7, hw⟩ := hw
  refine c_X10_leastNotTo_L2 (l := l) (z_p0_leads := p0_leads) E0 ?_ n7 _ _ hw _ _ _ hP hD hS (lv_sub hl [1, 2, 0] rfl)
  · intro v8 s9 H locs ls hw hP hD hS hl
    have hP : va_P (dC, dI) vwCl (wld_X10_leastNotTo cI cJ cZ h_p0 ad_p0 p0_places p0_steps p0_pastFirst p0_past p0_goings p0_rowSize p0_ways p0_hasField p0_fieldSize p0_faultNow p0_hasTree p0_treeSize p0_weightCount p0_roundCount p0_setCount s9 p0_next) H := hP
    have hD : va_D A (wld_X10_leastNotTo cI cJ cZ h_p0 ad_p0 p0_places p0_steps p0_pastFirst p0_past p0_goings p0_rowSize p0_ways p0_hasField p0_fieldSize p0_faultNow p0_hasTree p0_treeSize p0_weightCount p0_roundCount p0_setCount s9 p0_next) := hD
    refine lv_aload_n hx hb dX10_leastNotTo_32 rfl (lv_at hl 0 rfl) ?_
    obtain ⟨hPc, hDc⟩ := x_sub (wc := (wld_X10_spread cI cJ cZ h_p0 ad_p0 p0_places p0_steps p0_pastFirst p0_past p0_goings p0_rowSize p0_ways p0_hasField p0_fieldSize p0_faultNow p0_hasTree p0_treeSize p0_weightCount p0_roundCount p0_setCount s9 p0_next)) hP hD [0, 1, 2] (n := 3) rfl rfl (by decide +kernel)
    refine x_callv (ws' := fun (u : (Nat → Int32)) => (wld_X10_leastNotTo cI cJ cZ h_p0 ad_p0 p0_places p0_steps p0_pastFirst p0_past p0_goings p0_rowSize p0_ways p0_hasField p0_fieldSize p0_faultNow p0_hasTree p0_treeSize p0_weightCount p0_roundCount p0_setCount u p0_next)) hP hD hS hA [0, 1, 2] [] [0, 1, 2] (n := 3) (k := 3) rfl (fun _ => rfl) rfl (by decide +kernel) (fun _ => rfl) (va_runV (As := []) (rest := []) ⟨hx, hb, hml, hown, hts⟩ (c_X10_spread (l := l) (dC := dC) (dI := dI) (cI := cI) (cJ := cJ) (cZ := cZ) (sz := H.size) (h_p0 := h_p0) (ad_p0 := ad_p0) (p0_places := p0_places) (p0_steps := p0_steps) (p0_pastFirst := p0_pastFirst) (p0_past := p0_past) (p0_goings := p0_goings) (p0_rowSize := p0_rowSize) (p0_ways := p0_ways) (p0_hasField := p0_hasField) (p0_fieldSize := p0_fieldSize) (p0_faultNow := p0_faultNow) (p0_hasTree := p0_hasTree) (p0_treeSize := p0_treeSize) (p0_weightCount := p0_weightCount) (p0_roundCount := p0_roundCount) (p0_setCount := p0_setCount) (p0_leads := s9) (p0_next := p0_next) hw) (cwV 0 hts gX10_leastNotTo_X10_spread rfl rfl rfl (by decide +kernel) ⟨Nat.le_of_ble_eq_true rfl, Nat.le_of_ble_eq_true rfl⟩) ⟨xPre_blind, va_recv hK hP (ci := 10) (q0 := 0) rfl rfl, xPre_at hK hPc hDc n1 n2⟩ rfl rfl hl.1 rfl (lv_room (Nat.le_of_ble_eq_true rfl)) dX10_leastNotTo_33 ⟨Nat.zero_le _, Nat.zero_le _⟩) (fun u H locs hw hP hD hS => ?_)
    obtain ⟨y10, rfl⟩ : ∃ z, z = u := ⟨_, rfl⟩
    try dsimp only at hw
    have hP : va_P (dC, dI) vwCl (wld_X10_leastNotTo cI cJ cZ h_p0 ad_p0 p0_places p0_steps p0_pastFirst p0_past p0_goings p0_rowSize p0_ways p0_hasField p0_fieldSize p0_faultNow p0_hasTree p0_treeSize p0_weightCount p0_roundCount p0_setCount y10 p0_next) H := hP
    have hD : va_D A (wld_X10_leastNotTo cI cJ cZ h_p0 ad_p0 p0_places p0_steps p0_pastFirst p0_past p0_goings p0_rowSize p0_ways p0_hasField p0_fieldSize p0_faultNow p0_hasTree p0_treeSize p0_weightCount p0_roundCount p0_setCount y10 p0_next) := hD
    refine lv_aload_n hx hb dX10_leastNotTo_36 rfl (lv_at hl 0 rfl) ?_
    obtain ⟨hPc, hDc⟩ := x_sub (wc := (wld_X10_leastOut cI cJ cZ h_p0 ad_p0 p0_places p0_steps p0_pastFirst p0_past p0_goings p0_rowSize p0_ways p0_hasField p0_fieldSize p0_faultNow p0_hasTree p0_treeSize p0_weightCount p0_roundCount p0_setCount y10)) hP hD [0, 1] (n := 3) rfl rfl (by decide +kernel)
    refine x_calli (ws' := fun (u : Unit) => (wld_X10_leastNotTo cI cJ cZ h_p0 ad_p0 p0_places p0_steps p0_pastFirst p0_past p0_goings p0_rowSize p0_ways p0_hasField p0_fieldSize p0_faultNow p0_hasTree p0_treeSize p0_weightCount p0_roundCount p0_setCount y10 p0_next)) hP hD hS hA [0, 1] [2] [1, 2, 0] (n := 3) (k := 2) rfl (fun _ => rfl) rfl (by decide +kernel) (fun _ => rfl) (va_runV (As := []) (rest := []) ⟨hx, hb, hml, hown, hts⟩ (c_X10_leastOut (l := l) (dC := dC) (dI := dI) (cI := cI) (cJ := cJ) (cZ := cZ) (sz := H.size) (h_p0 := h_p0) (ad_p0 := ad_p0) (p0_places := p0_places) (p0_steps := p0_steps) (p0_pastFirst := p0_pastFirst) (p0_past := p0_past) (p0_goings := p0_goings) (p0_rowSize := p0_rowSize) (p0_ways := p0_ways) (p0_hasField := p0_hasField) (p0_fieldSize := p0_fieldSize) (p0_faultNow := p0_faultNow) (p0_hasTree := p0_hasTree) (p0_treeSize := p0_treeSize) (p0_weightCount := p0_weightCount) (p0_roundCount := p0_roundCount) (p0_setCount := p0_setCount) (p0_leads := y10) hw) (cwV 0 hts gX10_leastNotTo_X10_leastOut rfl rfl rfl (by decide +kernel) ⟨Nat.le_of_ble_eq_true rfl, Nat.le_of_ble_eq_true rfl⟩) ⟨xPre_blind, va_recv hK hP (ci := 10) (q0 := 0) rfl rfl, xPre_at hK hPc hDc n1 n2⟩ rfl rfl hl.1 rfl (lv_room (Nat.le_of_ble_eq_true rfl)) dX10_leastNotTo_37 ⟨Nat.zero_le _, Nat.zero_le _⟩) (fun r11 u H locs hw hP hD hS => ?_)
    try dsimp only at hw
    have hP : va_P (dC, dI) vwCl (wld_X10_leastNotTo cI cJ cZ h_p0 ad_p0 p0_places p0_steps p0_pastFirst p0_past p0_goings p0_rowSize p0_ways p0_hasField p0_fieldSize p0_faultNow p0_hasTree p0_treeSize p0_weightCount p0_roundCount p0_setCount y10 p0_next) H := hP
    have hD : va_D A (wld_X10_leastNotTo cI cJ cZ h_p0 ad_p0 p0_places p0_steps p0_pastFirst p0_past p0_goings p0_rowSize p0_ways p0_hasField p0_fieldSize p0_faultNow p0_hasTree p0_treeSize p0_weightCount p0_roundCount p0_setCount y10 p0_next) := hD
    exact x_iret (w1 := fun (u : (Nat → Int32)) => (wld_X10_leastNotTo cI cJ cZ h_p0 ad_p0 p0_places p0_steps p0_pastFirst p0_past p0_goings p0_rowSize p0_ways p0_hasField p0_fieldSize p0_faultNow p0_hasTree p0_treeSize p0_weightCount p0_roundCount p0_setCount u p0_next)) hx hb hr hlocks (y10) hw hP hD hS dX10_leastNotTo_40
abbrev wld_X10_home (cI cJ cZ : ClassId) (h_p0 : Nat) (ad_p0 : Nat → Nat) (p0_places : Int32) (p0_steps : Int32) (p0_pastFirst : Int32) (p0_past : Int32) (p0_goings : Int32) (p0_rowSize : Int32) (p0_ways : Int32) (p0_hasField : Int32) (p0_fieldSize : Int32) (p0_faultNow : Int32) (p0_hasTree : Int32) (p0_treeSize : Int32) (p0_weightCount : Int32) (p0_roundCount : Int32) (p0_setCount : Int32) (p0_leads : Nat → Int32) (p0_next : Nat → Int32) : va_W := [(h_p0, .inr (10, [.int p0_places, .int p0_steps, .ref (ad_p0 2), .ref (ad_p0 3), .ref (ad_p0 4), .ref (ad_p0 5), .ref (ad_p0 6), .ref (ad_p0 7), .ref (ad_p0 8), .ref (ad_p0 9), .ref (ad_p0 10), .ref (ad_p0 11), .ref (ad_p0 12), .ref (ad_p0 13), .ref (ad_p0 14), .int p0_pastFirst, .int p0_past, .int p0_goings, .int p0_rowSize, .ref (ad_p0 19), .ref (ad_p0 20), .int p0_ways, .ref (ad_p0 22), .ref (ad_p0 23), .int p0_hasField, .int p0_fieldSize, .ref (ad_p0 26), .ref (ad_p0 27), .ref (ad_p0 28), .ref (ad_p0 29), .ref (ad_p0 30), .ref (ad_p0 31), .ref (ad_p0 32), .int p0_faultNow, .int p0_hasTree, .int p0_treeSize, .ref (ad_p0 36), .ref (ad_p0 37), .ref (ad_p0 38), .ref (ad_p0 39), .ref (ad_p0 40), .ref (ad_p0 41), .ref (ad_p0 42), .int p0_weightCount, .ref (ad_p0 44), .int p0_roundCount, .ref (ad_p0 46), .int p0_setCount, .ref (ad_p0 48), .ref (ad_p0 49)])), ((ad_p0 32), .inl (cZ, 8000, .inl p0_leads)), ((ad_p0 30), .inl (cI, 128000, .inl p0_next))]
abbrev q_X10_home (dC : Nat → ClassId) (dI : Nat → Nat → Nat) (cI cJ cZ : ClassId) (h_p0 : Nat) (ad_p0 : Nat → Nat) (p0_places : Int32) (p0_steps : Int32) (p0_pastFirst : Int32) (p0_past : Int32) (p0_goings : Int32) (p0_rowSize : Int32) (p0_ways : Int32) (p0_hasField : Int32) (p0_fieldSize : Int32) (p0_faultNow : Int32) (p0_hasTree : Int32) (p0_treeSize : Int32) (p0_weightCount : Int32) (p0_roundCount : Int32) (p0_setCount : Int32) (p0_leads : Nat → Int32) (p0_next : Nat → Int32) (post : Int32 → (Nat → Int32) → Prop) (A : Nat → Prop) : Array Value → State → Outcome → State → Prop := va_Qi (fun r (u : (Nat → Int32)) => post r u) (fun (u : (Nat → Int32)) t => xPost (dC, dI) A (wld_X10_home cI cJ cZ h_p0 ad_p0 p0_places p0_steps p0_pastFirst p0_past p0_goings p0_rowSize p0_ways p0_hasField p0_fieldSize p0_faultNow p0_hasTree p0_treeSize p0_weightCount p0_roundCount p0_setCount u p0_next) t) A
def w_X10_home (p0_fieldSize : Int32) (p0_hasField : Int32) (p0_steps : Int32) (p0_leads : Nat → Int32) (p0_next : Nat → Int32) (a1 : Int32) (post : Int32 → (Nat → Int32) → Prop) : Prop :=
  w_X10_askField p0_fieldSize p0_hasField a1 (fun r1 =>
  (0 ≤ r1 →
    w_X10_leastNotTo p0_fieldSize p0_steps p0_leads p0_next a1 (fun r4 y5 =>
    (¬ r4 = (-2000000005 : Int32) →
      (post (0 : Int32) y5)) ∧
    (r4 = (-2000000005 : Int32) →
      (post (1 : Int32) y5)))) ∧
  (¬ 0 ≤ r1 →
    (post r1 p0_leads)))
set_option maxHeartbeats 4000000 in
set_option maxRecDepth 100000 in
theorem c_X10_home {l : Launch} {dC : Nat → ClassId} {dI : Nat → Nat → Nat} {sz : Nat} {cI cJ cZ : ClassId} {h_p0 : Nat} {ad_p0 : Nat → Nat} {p0_places : Int32} {p0_steps : Int32} {p0_pastFirst : Int32} {p0_past : Int32} {p0_goings : Int32} {p0_rowSize : Int32} {p0_ways : Int32} {p0_hasField : Int32} {p0_fieldSize : Int32} {p0_faultNow : Int32} {p0_hasTree : Int32} {p0_treeSize : Int32} {p0_weightCount : Int32} {p0_roundCount : Int32} {p0_setCount : Int32} {p0_leads : Nat → Int32} {p0_next : Nat → Int32} {a1 : Int32} {post : Int32 → (Nat → Int32) → Prop} (hw : w_X10_home p0_fieldSize p0_hasField p0_steps p0_leads p0_next a1 post) : Met l yX10_home wsX10_home ({ frames := 2, cells := 0, slots := 0, locals := 46 }) (va_Pc [.ref h_p0, .int a1] (xPre (dC, dI) cI cJ cZ (wld_X10_home cI cJ cZ h_p0 ad_p0 p0_places p0_steps p0_pastFirst p0_past p0_goings p0_rowSize p0_ways p0_hasField p0_fieldSize p0_faultNow p0_hasTree p0_treeSize p0_weightCount p0_roundCount p0_setCount p0_leads p0_next) sz)) (q_X10_home dC dI cI cJ cZ h_p0 ad_p0 p0_places p0_steps p0_pastFirst p0_past p0_goings p0_rowSize p0_ways p0_hasField p0_fieldSize p0_faultNow p0_hasTree p0_treeSize p0_weightCount p0_roundCount p0_setCount p0_leads p0_next post (va_A (wld_X10_home cI cJ cZ h_p0 ad_p0 p0_places p0_steps p0_pastFirst p0_past p0_goings p0_rowSize p0_ways p0_hasField p0_fieldSize p0_faultNow p0_hasTree p0_treeSize p0_weightCount p0_roundCount p0_setCount p0_leads p0_next) sz)) 0 0 (va_A (wld_X10_home cI cJ cZ h_p0 ad_p0 p0_places p0_steps p0_pastFirst p0_past p0_goings p0_rowSize p0_ways p0_hasField p0_fieldSize p0_faultNow p0_hasTree p0_treeSize p0_weightCount p0_roundCount p0_setCount p0_leads p0_next) sz) := by
  refine x_met (cc := cX10_home) (maxL := 3) (ret := (some .int)) (own := RX10) (Qc := fun A => (q_X10_home dC dI cI cJ cZ h_p0 ad_p0 p0_places p0_steps p0_pastFirst p0_past p0_goings p0_rowSize p0_ways p0_hasField p0_fieldSize p0_faultNow p0_hasTree p0_treeSize p0_weightCount p0_roundCount p0_setCount p0_leads p0_next post A)) (by decide) rfl rfl (Nat.le_of_ble_eq_true rfl) ?_
  intro p e s m args below meth c A ls E0 hP hD hS hl
  obtain ⟨hx, hb, hr, hml, hown, hts, hlocks, hK, hA, n1, n2⟩ := id E0
  have iX10 : ∀ w ∈ u_ws RX10 TX10 50, w ∈ wsX10_home := fun w h => List.mem_cons_of_mem _ (List.mem_append_right _ h)
  have hS0 := hS
  have hl : lv_has ls 3 [(0, .ref h_p0), (1, .int a1)] := hl
  unfold w_X10_home at hw
  obtain ⟨H, hH⟩ : ∃ H, H = s.heap := ⟨_, rfl⟩
  have hS : va_S A s.heap H [] := by rw [hH]; exact hS
  have hP : va_P (dC, dI) vwCl (wld_X10_home cI cJ cZ h_p0 ad_p0 p0_places p0_steps p0_pastFirst p0_past p0_goings p0_rowSize p0_ways p0_hasField p0_fieldSize p0_faultNow p0_hasTree p0_treeSize p0_weightCount p0_roundCount p0_setCount p0_leads p0_next) H := by rw [hH]; exact hP
  suffices hG : W p l e ({ frames := 2, cells := 0, slots := 0, locals := 46 }) s m args below meth c H [] 0 0 (MQ below (q_X10_home dC dI cI cJ cZ h_p0 ad_p0 p0_places p0_steps p0_pastFirst p0_past p0_goings p0_rowSize p0_ways p0_hasField p0_fieldSize p0_faultNow p0_hasTree p0_treeSize p0_weightCount p0_roundCount p0_setCount p0_leads p0_next post A) args s 0 0 A) (F0 m 0 ls []) by rw [hH] at hG; exact hG
  clear hH
  refine lv_aload_n hx hb dX10_home_0 rfl (lv_at hl 0 rfl) ?_
  refine lv_iload_n hx hb dX10_home_1 rfl (lv_at hl 1 rfl) ?_
  obtain ⟨hPc, hDc⟩ := x_sub (wc := (wld_X10_askField cI cJ cZ h_p0 ad_p0 p0_places p0_steps p0_pastFirst p0_past p0_goings p0_rowSize p0_ways p0_hasField p0_fieldSize p0_faultNow p0_hasTree p0_treeSize p0_weightCount p0_roundCount p0_setCount)) hP hD [0] (n := 3) rfl rfl (by decide +kernel)
  refine x_calli (ws' := fun (u : Unit) => (wld_X10_home cI cJ cZ h_p0 ad_p0 p0_places p0_steps p0_pastFirst p0_past p0_goings p0_rowSize p0_ways p0_hasField p0_fieldSize p0_faultNow p0_hasTree p0_treeSize p0_weightCount p0_roundCount p0_setCount p0_leads p0_next)) hP hD hS hA [0] [1, 2] [2, 0, 1] (n := 3) (k := 1) rfl (fun _ => rfl) rfl (by decide +kernel) (fun _ => rfl) (va_runV (As := [.int a1]) (rest := []) ⟨hx, hb, hml, hown, hts⟩ (c_X10_askField (l := l) (dC := dC) (dI := dI) (cI := cI) (cJ := cJ) (cZ := cZ) (sz := H.size) (h_p0 := h_p0) (ad_p0 := ad_p0) (p0_places := p0_places) (p0_steps := p0_steps) (p0_pastFirst := p0_pastFirst) (p0_past := p0_past) (p0_goings := p0_goings) (p0_rowSize := p0_rowSize) (p0_ways := p0_ways) (p0_hasField := p0_hasField) (p0_fieldSize := p0_fieldSize) (p0_faultNow := p0_faultNow) (p0_hasTree := p0_hasTree) (p0_treeSize := p0_treeSize) (p0_weightCount := p0_weightCount) (p0_roundCount := p0_roundCount) (p0_setCount := p0_setCount) hw) (cwV 1 hts gX10_home_X10_askField rfl rfl rfl (by decide +kernel) ⟨Nat.le_of_ble_eq_true rfl, Nat.le_of_ble_eq_true rfl⟩) ⟨xPre_blind, va_recv hK hP (ci := 10) (q0 := 0) rfl rfl, xPre_at hK hPc hDc n1 n2⟩ rfl rfl hl.1 rfl (lv_room (Nat.le_of_ble_eq_true rfl)) dX10_home_2 ⟨Nat.zero_le _, Nat.zero_le _⟩) (fun r1 u H locs hw hP hD hS => ?_)
  try dsimp only at hw
  have hP : va_P (dC, dI) vwCl (wld_X10_home cI cJ cZ h_p0 ad_p0 p0_places p0_steps p0_pastFirst p0_past p0_goings p0_rowSize p0_ways p0_hasField p0_fieldSize p0_faultNow p0_hasTree p0_treeSize p0_weightCount p0_roundCount p0_setCount p0_leads p0_next) H := hP
  have hD : va_D A (wld_X10_home cI cJ cZ h_p0 ad_p0 p0_places p0_steps p0_pastFirst p0_past p0_goings p0_rowSize p0_ways p0_hasField p0_fieldSize p0_faultNow p0_hasTree p0_treeSize p0_weightCount p0_roundCount p0_setCount p0_leads p0_next) := hD
  refine lv_istore_n (lv' := [(2, .int r1), (0, .ref h_p0), (1, .int a1)]) hx hb dX10_home_5 rfl hl (by decide) rfl (fun ls hl => ?_)
  refine lv_iload_n hx hb dX10_home_6 rfl (lv_at hl 0 rfl) ?_
  refine lv_if_ge (tgt := 14) hx hb dX10_home_7 (by decide) (fun c2 => ?_) (fun c3 => ?_)
  · have hw := hw.1 c2
    refine lv_aload_n hx hb dX10_home_14 rfl (lv_at hl 1 rfl) ?_
    refine lv_iload_n hx hb dX10_home_15 rfl (lv_at hl 2 rfl) ?_
    obtain ⟨hPc, hDc⟩ := x_sub (wc := (wld_X10_leastNotTo cI cJ cZ h_p0 ad_p0 p0_places p0_steps p0_pastFirst p0_past p0_goings p0_rowSize p0_ways p0_hasField p0_fieldSize p0_faultNow p0_hasTree p0_treeSize p0_weightCount p0_roundCount p0_setCount p0_leads p0_next)) hP hD [0, 1, 2] (n := 3) rfl rfl (by decide +kernel)
    refine x_calli (ws' := fun (u : (Nat → Int32)) => (wld_X10_home cI cJ cZ h_p0 ad_p0 p0_places p0_steps p0_pastFirst p0_past p0_goings p0_rowSize p0_ways p0_hasField p0_fieldSize p0_faultNow p0_hasTree p0_treeSize p0_weightCount p0_roundCount p0_setCount u p0_next)) hP hD hS hA [0, 1, 2] [] [0, 1, 2] (n := 3) (k := 3) rfl (fun _ => rfl) rfl (by decide +kernel) (fun _ => rfl) (va_runV (As := [.int a1]) (rest := []) ⟨hx, hb, hml, hown, hts⟩ (c_X10_leastNotTo (l := l) (dC := dC) (dI := dI) (cI := cI) (cJ := cJ) (cZ := cZ) (sz := H.size) (h_p0 := h_p0) (ad_p0 := ad_p0) (p0_places := p0_places) (p0_steps := p0_steps) (p0_pastFirst := p0_pastFirst) (p0_past := p0_past) (p0_goings := p0_goings) (p0_rowSize := p0_rowSize) (p0_ways := p0_ways) (p0_hasField := p0_hasField) (p0_fieldSize := p0_fieldSize) (p0_faultNow := p0_faultNow) (p0_hasTree := p0_hasTree) (p0_treeSize := p0_treeSize) (p0_weightCount := p0_weightCount) (p0_roundCount := p0_roundCount) (p0_setCount := p0_setCount) (p0_leads := p0_leads) (p0_next := p0_next) hw) (cwV 1 hts gX10_home_X10_leastNotTo rfl rfl rfl (by decide +kernel) ⟨Nat.le_of_ble_eq_true rfl, Nat.le_of_ble_eq_true rfl⟩) ⟨xPre_blind, va_recv hK hP (ci := 10) (q0 := 0) rfl rfl, xPre_at hK hPc hDc n1 n2⟩ rfl rfl hl.1 rfl (lv_room (Nat.le_of_ble_eq_true rfl)) dX10_home_16 ⟨Nat.zero_le _, Nat.zero_le _⟩) (fun r4 u H locs hw hP hD hS => ?_)
    obtain ⟨y5, rfl⟩ : ∃ z, z = u := ⟨_, rfl⟩
    try dsimp only at hw
    have hP : va_P (dC, dI) vwCl (wld_X10_home cI cJ cZ h_p0 ad_p0 p0_places p0_steps p0_pastFirst p0_past p0_goings p0_rowSize p0_ways p0_hasField p0_fieldSize p0_faultNow p0_hasTree p0_treeSize p0_weightCount p0_roundCount p0_setCount y5 p0_next) H := hP
    have hD : va_D A (wld_X10_home cI cJ cZ h_p0 ad_p0 p0_places p0_steps p0_pastFirst p0_past p0_goings p0_rowSize p0_ways p0_hasField p0_fieldSize p0_faultNow p0_hasTree p0_treeSize p0_weightCount p0_roundCount p0_setCount y5 p0_next) := hD
    refine lv_ldc (v := -2000000005) hx hb hown (hts (.constant RX10 85 (-2000000005)) (by decide +kernel)) dX10_home_19 ?_
    refine lv_icmp_ne (tgt := 28) hx hb dX10_home_21 (by decide) (fun c6 => ?_) (fun c7 => ?_)
    · have hw := hw.1 c6
      refine lv_iconst (v := 0) hx hb dX10_home_28 (by decide) ?_
      exact x_iret (w1 := fun (u : (Nat → Int32)) => (wld_X10_home cI cJ cZ h_p0 ad_p0 p0_places p0_steps p0_pastFirst p0_past p0_goings p0_rowSize p0_ways p0_hasField p0_fieldSize p0_faultNow p0_hasTree p0_treeSize p0_weightCount p0_roundCount p0_setCount u p0_next)) hx hb hr hlocks (y5) hw hP hD hS dX10_home_29
    · have hw := hw.2 c7
      refine lv_iconst (v := 1) hx hb dX10_home_24 (by decide) ?_
      refine lv_goto (tgt := 29) hx hb dX10_home_25 (by decide) ?_
      exact x_iret (w1 := fun (u : (Nat → Int32)) => (wld_X10_home cI cJ cZ h_p0 ad_p0 p0_places p0_steps p0_pastFirst p0_past p0_goings p0_rowSize p0_ways p0_hasField p0_fieldSize p0_faultNow p0_hasTree p0_treeSize p0_weightCount p0_roundCount p0_setCount u p0_next)) hx hb hr hlocks (y5) hw hP hD hS dX10_home_29
  · have hw := hw.2 c3
    refine lv_iload_n hx hb dX10_home_10 rfl (lv_at hl 0 rfl) ?_
    refine lv_goto (tgt := 29) hx hb dX10_home_11 (by decide) ?_
    exact x_iret (w1 := fun (u : (Nat → Int32)) => (wld_X10_home cI cJ cZ h_p0 ad_p0 p0_places p0_steps p0_pastFirst p0_past p0_goings p0_rowSize p0_ways p0_hasField p0_fieldSize p0_faultNow p0_hasTree p0_treeSize p0_weightCount p0_roundCount p0_setCount u p0_next)) hx hb hr hlocks (p0_leads) hw hP hD hS dX10_home_29
abbrev wld_X10_leastOther (cI cJ cZ : ClassId) (h_p0 : Nat) (ad_p0 : Nat → Nat) (p0_places : Int32) (p0_steps : Int32) (p0_pastFirst : Int32) (p0_past : Int32) (p0_goings : Int32) (p0_rowSize : Int32) (p0_ways : Int32) (p0_hasField : Int32) (p0_fieldSize : Int32) (p0_faultNow : Int32) (p0_hasTree : Int32) (p0_treeSize : Int32) (p0_weightCount : Int32) (p0_roundCount : Int32) (p0_setCount : Int32) (p0_field : Nat → Int32) : va_W := [(h_p0, .inr (10, [.int p0_places, .int p0_steps, .ref (ad_p0 2), .ref (ad_p0 3), .ref (ad_p0 4), .ref (ad_p0 5), .ref (ad_p0 6), .ref (ad_p0 7), .ref (ad_p0 8), .ref (ad_p0 9), .ref (ad_p0 10), .ref (ad_p0 11), .ref (ad_p0 12), .ref (ad_p0 13), .ref (ad_p0 14), .int p0_pastFirst, .int p0_past, .int p0_goings, .int p0_rowSize, .ref (ad_p0 19), .ref (ad_p0 20), .int p0_ways, .ref (ad_p0 22), .ref (ad_p0 23), .int p0_hasField, .int p0_fieldSize, .ref (ad_p0 26), .ref (ad_p0 27), .ref (ad_p0 28), .ref (ad_p0 29), .ref (ad_p0 30), .ref (ad_p0 31), .ref (ad_p0 32), .int p0_faultNow, .int p0_hasTree, .int p0_treeSize, .ref (ad_p0 36), .ref (ad_p0 37), .ref (ad_p0 38), .ref (ad_p0 39), .ref (ad_p0 40), .ref (ad_p0 41), .ref (ad_p0 42), .int p0_weightCount, .ref (ad_p0 44), .int p0_roundCount, .ref (ad_p0 46), .int p0_setCount, .ref (ad_p0 48), .ref (ad_p0 49)])), ((ad_p0 26), .inl (cI, 128000, .inl p0_field))]
abbrev q_X10_leastOther (dC : Nat → ClassId) (dI : Nat → Nat → Nat) (cI cJ cZ : ClassId) (h_p0 : Nat) (ad_p0 : Nat → Nat) (p0_places : Int32) (p0_steps : Int32) (p0_pastFirst : Int32) (p0_past : Int32) (p0_goings : Int32) (p0_rowSize : Int32) (p0_ways : Int32) (p0_hasField : Int32) (p0_fieldSize : Int32) (p0_faultNow : Int32) (p0_hasTree : Int32) (p0_treeSize : Int32) (p0_weightCount : Int32) (p0_roundCount : Int32) (p0_setCount : Int32) (p0_field : Nat → Int32) (post : Int32 → Prop) (A : Nat → Prop) : Array Value → State → Outcome → State → Prop := va_Qi (fun r (u : Unit) => post r ) (fun (u : Unit) t => xPost (dC, dI) A (wld_X10_leastOther cI cJ cZ h_p0 ad_p0 p0_places p0_steps p0_pastFirst p0_past p0_goings p0_rowSize p0_ways p0_hasField p0_fieldSize p0_faultNow p0_hasTree p0_treeSize p0_weightCount p0_roundCount p0_setCount p0_field) t) A
def w_X10_leastOther_L2b (v1 : Int32) (v2 : Int32) (p0_fieldSize : Int32) (p0_field : Nat → Int32) (post : Int32 → Prop) (K : (Int32) → Prop) (rec : (Int32) → Prop) (v3 : Int32) : Prop :=
    (p0_fieldSize ≤ v3 →
      K v3) ∧
    (¬ p0_fieldSize ≤ v3 →
      (v3 = v2 →
        ∀ x5 : Int32, x5 = v3 + (1 : Int32) →
        rec x5) ∧
      (¬ v3 = v2 →
        vp_in (((16 : Int32) * v3) + v1) 128000 ∧
        ((p0_field (((16 : Int32) * v3) + v1).toNatClampNeg) ≤ 0 →
          ∀ x8 : Int32, x8 = v3 + (1 : Int32) →
          rec x8) ∧
        (¬ (p0_field (((16 : Int32) * v3) + v1).toNatClampNeg) ≤ 0 →
          (post v3))))
def w_X10_leastOther_L2 (v1 : Int32) (v2 : Int32) (p0_fieldSize : Int32) (p0_field : Nat → Int32) (post : Int32 → Prop) (K : (Int32) → Prop) : Nat → (Int32) → Prop
  | 0, _ => False
  | n + 1, v3 => w_X10_leastOther_L2b v1 v2 p0_fieldSize p0_field post K (w_X10_leastOther_L2 v1 v2 p0_fieldSize p0_field post K n) v3
def w_X10_leastOther (p0_fieldSize : Int32) (p0_field : Nat → Int32) (a1 : Int32) (a2 : Int32) (post : Int32 → Prop) : Prop :=
  ∃ n : Nat, w_X10_leastOther_L2 a1 a2 p0_fieldSize p0_field post (fun v10 =>
      (post (-2000000005 : Int32))) n (0 : Int32)
set_option maxHeartbeats 4000000 in
set_option maxRecDepth 100000 in
theorem c_X10_leastOther_L2 {p : Program} {l : Launch} {e : Env} {s : State} {m : MethodId} {args : Array Value} {below : List Frame} {meth : Method} {c : Code} {dC : Nat → ClassId} {dI : Nat → Nat → Nat} {A : Nat → Prop} {cI cJ cZ : ClassId} {h_p0 : Nat} {ad_p0 : Nat → Nat} {p0_places : Int32} {p0_steps : Int32} {p0_pastFirst : Int32} {p0_past : Int32} {p0_goings : Int32} {p0_rowSize : Int32} {p0_ways : Int32} {p0_hasField : Int32} {p0_fieldSize : Int32} {p0_faultNow : Int32} {p0_hasTree : Int32} {p0_treeSize : Int32} {p0_weightCount : Int32} {p0_roundCount : Int32} {p0_setCount : Int32} {p0_field : Nat → Int32} {v1 : Int32} {v2 : Int32}  {post : Int32 → Prop} {K : (Int32) → Prop} (E0 : xEnv p s m args meth c cX10_leastOther (some .int) 4 RX10 wsX10_leastOther (dC, dI) cI cJ cZ A) (hk : ∀ (v3 : Int32) (H : Heap) (locs : List Loc) (ls : Array Slot), K v3 → va_P (dC, dI) vwCl (wld_X10_leastOther cI cJ cZ h_p0 ad_p0 p0_places p0_steps p0_pastFirst p0_past p0_goings p0_rowSize p0_ways p0_hasField p0_fieldSize p0_faultNow p0_hasTree p0_treeSize p0_weightCount p0_roundCount p0_setCount p0_field) H → va_D A (wld_X10_leastOther cI cJ cZ h_p0 ad_p0 p0_places p0_steps p0_pastFirst p0_past p0_goings p0_rowSize p0_ways p0_hasField p0_fieldSize p0_faultNow p0_hasTree p0_treeSize p0_weightCount p0_roundCount p0_setCount p0_field) → va_S A s.heap H locs → lv_has ls 4 [] → W p l e ({ frames := 0, cells := 0, slots := 0, locals := 0 }) s m args below meth c H locs 0 0 (MQ below (q_X10_leastOther dC dI cI cJ cZ h_p0 ad_p0 p0_places p0_steps p0_pastFirst p0_past p0_goings p0_rowSize p0_ways p0_hasField p0_fieldSize p0_faultNow p0_hasTree p0_treeSize p0_weightCount p0_roundCount p0_setCount p0_field post A) args s 0 0 A) (F0 m 37 ls [])) : ∀ (n : Nat) (v3 : Int32), w_X10_leastOther_L2 v1 v2 p0_fieldSize p0_field post K n v3 → ∀ (H : Heap) (locs : List Loc) (ls : Array Slot), va_P (dC, dI) vwCl (wld_X10_leastOther cI cJ cZ h_p0 ad_p0 p0_places p0_steps p0_pastFirst p0_past p0_goings p0_rowSize p0_ways p0_hasField p0_fieldSize p0_faultNow p0_hasTree p0_treeSize p0_weightCount p0_roundCount p0_setCount p0_field) H → va_D A (wld_X10_leastOther cI cJ cZ h_p0 ad_p0 p0_places p0_steps p0_pastFirst p0_past p0_goings p0_rowSize p0_ways p0_hasField p0_fieldSize p0_faultNow p0_hasTree p0_treeSize p0_weightCount p0_roundCount p0_setCount p0_field) → va_S A s.heap H locs → lv_has ls 4 [(0, .ref h_p0), (1, .int v1), (2, .int v2), (3, .int v3)] → W p l e ({ frames := 0, cells := 0, slots := 0, locals := 0 }) s m args below meth c H locs 0 0 (MQ below (q_X10_leastOther dC dI cI cJ cZ h_p0 ad_p0 p0_places p0_steps p0_pastFirst p0_past p0_goings p0_rowSize p0_ways p0_hasField p0_fieldSize p0_faultNow p0_hasTree p0_treeSize p0_weightCount p0_roundCount p0_setCount p0_field post A) args s 0 0 A) (F0 m 2 ls []) := by
  obtain ⟨hx, hb, hr, hml, hown, hts, hlocks, hK, hA, n1, n2⟩ := id E0
  have iX10 : ∀ w ∈ u_ws RX10 TX10 50, w ∈ wsX10_leastOther := fun w h => List.mem_cons_of_mem _ (List.mem_append_right _ h)
  intro n
  induction n with
  | zero => intro v3 hw; exact hw.elim
  | succ n ih =>
    intro v3 hw H locs ls hP hD hS hl
    have hw : w_X10_leastOther_L2b v1 v2 p0_fieldSize p0_field post K (w_X10_leastOther_L2 v1 v2 p0_fieldSize p0_field post K n) v3 := hw
    unfold w_X10_leastOther_L2b at hw
    refine lv_iload_n hx hb dX10_leastOther_2 rfl (lv_at hl 3 rfl) ?_
    refine lv_aload_n hx hb dX10_leastOther_3 rfl (lv_at hl 0 rfl) ?_
    refine va_get (D := (dC, dI)) (ci := 10) (v := .int p0_fieldSize) (C := RX10) (T := TX10) (N := 50) hx hb hts iX10 hown hK hP 0 rfl rfl 25 (by decide) (hts (.fieldLink RX10 124 "NetHouseModel" "fieldSize" "I") (by decide +kernel)) (fun _ h9 => h9) rfl dX10_leastOther_4 ?_
    refine lv_icmp_ge (tgt := 37) hx hb dX10_leastOther_7 (by decide) (fun c1 => ?_) (fun c2 => ?_)
    · have hw := hw.1 c1
      exact hk _ _ _ _ hw hP hD hS (lv_sub hl [] rfl)
    · have hw := hw.2 c2
      refine lv_iload_n hx hb dX10_leastOther_10 rfl (lv_at hl 3 rfl) ?_
      refine lv_iload_n hx hb dX10_leastOther_11 rfl (lv_at hl 2 rfl) ?_
      refine lv_icmp_eq (tgt := 31) hx hb dX10_leastOther_12 (by decide) (fun c3 => ?_) (fun c4 => ?_)
      · have hw := hw.1 c3
        obtain ⟨x5, ex5⟩ : ∃ y : Int32, y = v3 + (1 : Int32) := ⟨_, rfl⟩
        have hw := hw x5 ex5
        refine lv_iinc (v := x5) (lv' := [(3, .int x5), (0, .ref h_p0), (1, .int v1), (2, .int v2)]) hx hb dX10_leastOther_31 hl (k := 3) rfl (by rw [ex5]; rfl) (by decide) rfl (fun ls hl => ?_)
        refine lv_goto (tgt := 2) hx hb dX10_leastOther_34 (by decide) ?_
        exact ih _ hw _ _ _ hP hD hS (lv_sub hl [1, 2, 3, 0] rfl)
      · have hw := hw.2 c4
        refine lv_aload_n hx hb dX10_leastOther_15 rfl (lv_at hl 0 rfl) ?_
        refine va_get (D := (dC, dI)) (ci := 10) (v := .ref (ad_p0 26)) (C := RX10) (T := TX10) (N := 50) hx hb hts iX10 hown hK hP 0 rfl rfl 26 (by decide) (hts (.fieldLink RX10 63 "NetHouseModel" "field" "[I") (by decide +kernel)) (fun _ h9 => h9) rfl dX10_leastOther_16 ?_
        refine lv_bipush (v := 16) hx hb dX10_leastOther_19 (by decide) ?_
        refine lv_iload_n hx hb dX10_leastOther_21 rfl (lv_at hl 3 rfl) ?_
        refine lv_imul hx hb dX10_leastOther_22 ?_
        refine lv_iload_n hx hb dX10_leastOther_23 rfl (lv_at hl 1 rfl) ?_
        refine lv_iadd hx hb dX10_leastOther_24 ?_
        refine va_iald hx hb hK hP 1 0 rfl rfl hw.1 dX10_leastOther_25 ?_
        have hw := hw.2
        refine lv_if_le (tgt := 31) hx hb dX10_leastOther_26 (by decide) (fun c6 => ?_) (fun c7 => ?_)
        · have hw := hw.1 c6
          obtain ⟨x8, ex8⟩ : ∃ y : Int32, y = v3 + (1 : Int32) := ⟨_, rfl⟩
          have hw := hw x8 ex8
          refine lv_iinc (v := x8) (lv' := [(3, .int x8), (0, .ref h_p0), (1, .int v1), (2, .int v2)]) hx hb dX10_leastOther_31 hl (k := 3) rfl (by rw [ex8]; rfl) (by decide) rfl (fun ls hl => ?_)
          refine lv_goto (tgt := 2) hx hb dX10_leastOther_34 (by decide) ?_
          exact ih _ hw _ _ _ hP hD hS (lv_sub hl [1, 2, 3, 0] rfl)
        · have hw := hw.2 c7
          refine lv_iload_n hx hb dX10_leastOther_29 rfl (lv_at hl 3 rfl) ?_
          exact x_iret (w1 := fun (u : Unit) => (wld_X10_leastOther cI cJ cZ h_p0 ad_p0 p0_places p0_steps p0_pastFirst p0_past p0_goings p0_rowSize p0_ways p0_hasField p0_fieldSize p0_faultNow p0_hasTree p0_treeSize p0_weightCount p0_roundCount p0_setCount p0_field)) hx hb hr hlocks () hw hP hD hS dX10_leastOther_30
set_option maxHeartbeats 4000000 in
set_option maxRecDepth 100000 in
theorem c_X10_leastOther {l : Launch} {dC : Nat → ClassId} {dI : Nat → Nat → Nat} {sz : Nat} {cI cJ cZ : ClassId} {h_p0 : Nat} {ad_p0 : Nat → Nat} {p0_places : Int32} {p0_steps : Int32} {p0_pastFirst : Int32} {p0_past : Int32} {p0_goings : Int32} {p0_rowSize : Int32} {p0_ways : Int32} {p0_hasField : Int32} {p0_fieldSize : Int32} {p0_faultNow : Int32} {p0_hasTree : Int32} {p0_treeSize : Int32} {p0_weightCount : Int32} {p0_roundCount : Int32} {p0_setCount : Int32} {p0_field : Nat → Int32} {a1 : Int32} {a2 : Int32} {post : Int32 → Prop} (hw : w_X10_leastOther p0_fieldSize p0_field a1 a2 post) : Met l yX10_leastOther wsX10_leastOther ({ frames := 0, cells := 0, slots := 0, locals := 0 }) (va_Pc [.ref h_p0, .int a1, .int a2] (xPre (dC, dI) cI cJ cZ (wld_X10_leastOther cI cJ cZ h_p0 ad_p0 p0_places p0_steps p0_pastFirst p0_past p0_goings p0_rowSize p0_ways p0_hasField p0_fieldSize p0_faultNow p0_hasTree p0_treeSize p0_weightCount p0_roundCount p0_setCount p0_field) sz)) (q_X10_leastOther dC dI cI cJ cZ h_p0 ad_p0 p0_places p0_steps p0_pastFirst p0_past p0_goings p0_rowSize p0_ways p0_hasField p0_fieldSize p0_faultNow p0_hasTree p0_treeSize p0_weightCount p0_roundCount p0_setCount p0_field post (va_A (wld_X10_leastOther cI cJ cZ h_p0 ad_p0 p0_places p0_steps p0_pastFirst p0_past p0_goings p0_rowSize p0_ways p0_hasField p0_fieldSize p0_faultNow p0_hasTree p0_treeSize p0_weightCount p0_roundCount p0_setCount p0_field) sz)) 0 0 (va_A (wld_X10_leastOther cI cJ cZ h_p0 ad_p0 p0_places p0_steps p0_pastFirst p0_past p0_goings p0_rowSize p0_ways p0_hasField p0_fieldSize p0_faultNow p0_hasTree p0_treeSize p0_weightCount p0_roundCount p0_setCount p0_field) sz) := by
  refine x_met (cc := cX10_leastOther) (maxL := 4) (ret := (some .int)) (own := RX10) (Qc := fun A => (q_X10_leastOther dC dI cI cJ cZ h_p0 ad_p0 p0_places p0_steps p0_pastFirst p0_past p0_goings p0_rowSize p0_ways p0_hasField p0_fieldSize p0_faultNow p0_hasTree p0_treeSize p0_weightCount p0_roundCount p0_setCount p0_field post A)) (by decide) rfl rfl (Nat.le_of_ble_eq_true rfl) ?_
  intro p e s m args below meth c A ls E0 hP hD hS hl
  obtain ⟨hx, hb, hr, hml, hown, hts, hlocks, hK, hA, n1, n2⟩ := id E0
  have iX10 : ∀ w ∈ u_ws RX10 TX10 50, w ∈ wsX10_leastOther := fun w h => List.mem_cons_of_mem _ (List.mem_append_right _ h)
  have hS0 := hS
  have hl : lv_has ls 4 [(0, .ref h_p0), (1, .int a1), (2, .int a2)] := hl
  unfold w_X10_leastOther at hw
  obtain ⟨H, hH⟩ : ∃ H, H = s.heap := ⟨_, rfl⟩
  have hS : va_S A s.heap H [] := by rw [hH]; exact hS
  have hP : va_P (dC, dI) vwCl (wld_X10_leastOther cI cJ cZ h_p0 ad_p0 p0_places p0_steps p0_pastFirst p0_past p0_goings p0_rowSize p0_ways p0_hasField p0_fieldSize p0_faultNow p0_hasTree p0_treeSize p0_weightCount p0_roundCount p0_setCount p0_field) H := by rw [hH]; exact hP
  suffices hG : W p l e ({ frames := 0, cells := 0, slots := 0, locals := 0 }) s m args below meth c H [] 0 0 (MQ below (q_X10_leastOther dC dI cI cJ cZ h_p0 ad_p0 p0_places p0_steps p0_pastFirst p0_past p0_goings p0_rowSize p0_ways p0_hasField p0_fieldSize p0_faultNow p0_hasTree p0_treeSize p0_weightCount p0_roundCount p0_setCount p0_field post A) args s 0 0 A) (F0 m 0 ls []) by rw [hH] at hG; exact hG
  clear hH
  refine lv_iconst (v := 0) hx hb dX10_leastOther_0 (by decide) ?_
  refine lv_istore_n (lv' := [(3, .int (0 : Int32)), (0, .ref h_p0), (1, .int a1), (2, .int a2)]) hx hb dX10_leastOther_1 rfl hl (by decide) rfl (fun ls hl => ?_)
  obtain ⟨n9, hw⟩ := hw
  refine c_X10_leastOther_L2 (l := l)  E0 ?_ n9 _ hw _ _ _ hP hD hS (lv_sub hl [1, 2, 3, 0] rfl)
  · intro v10 H locs ls hw hP hD hS hl
    have hP : va_P (dC, dI) vwCl (wld_X10_leastOther cI cJ cZ h_p0 ad_p0 p0_places p0_steps p0_pastFirst p0_past p0_goings p0_rowSize p0_ways p0_hasField p0_fieldSize p0_faultNow p0_hasTree p0_treeSize p0_weightCount p0_roundCount p0_setCount p0_field) H := hP
    have hD : va_D A (wld_X10_leastOther cI cJ cZ h_p0 ad_p0 p0_places p0_steps p0_pastFirst p0_past p0_goings p0_rowSize p0_ways p0_hasField p0_fieldSize p0_faultNow p0_hasTree p0_treeSize p0_weightCount p0_roundCount p0_setCount p0_field) := hD
    refine lv_ldc (v := -2000000005) hx hb hown (hts (.constant RX10 85 (-2000000005)) (by decide +kernel)) dX10_leastOther_37 ?_
    exact x_iret (w1 := fun (u : Unit) => (wld_X10_leastOther cI cJ cZ h_p0 ad_p0 p0_places p0_steps p0_pastFirst p0_past p0_goings p0_rowSize p0_ways p0_hasField p0_fieldSize p0_faultNow p0_hasTree p0_treeSize p0_weightCount p0_roundCount p0_setCount p0_field)) hx hb hr hlocks () hw hP hD hS dX10_leastOther_39
abbrev wld_X10_leastIdle (cI cJ cZ : ClassId) (h_p0 : Nat) (ad_p0 : Nat → Nat) (p0_places : Int32) (p0_steps : Int32) (p0_pastFirst : Int32) (p0_past : Int32) (p0_goings : Int32) (p0_rowSize : Int32) (p0_ways : Int32) (p0_hasField : Int32) (p0_fieldSize : Int32) (p0_faultNow : Int32) (p0_hasTree : Int32) (p0_treeSize : Int32) (p0_weightCount : Int32) (p0_roundCount : Int32) (p0_setCount : Int32) (p0_next : Nat → Int32) : va_W := [(h_p0, .inr (10, [.int p0_places, .int p0_steps, .ref (ad_p0 2), .ref (ad_p0 3), .ref (ad_p0 4), .ref (ad_p0 5), .ref (ad_p0 6), .ref (ad_p0 7), .ref (ad_p0 8), .ref (ad_p0 9), .ref (ad_p0 10), .ref (ad_p0 11), .ref (ad_p0 12), .ref (ad_p0 13), .ref (ad_p0 14), .int p0_pastFirst, .int p0_past, .int p0_goings, .int p0_rowSize, .ref (ad_p0 19), .ref (ad_p0 20), .int p0_ways, .ref (ad_p0 22), .ref (ad_p0 23), .int p0_hasField, .int p0_fieldSize, .ref (ad_p0 26), .ref (ad_p0 27), .ref (ad_p0 28), .ref (ad_p0 29), .ref (ad_p0 30), .ref (ad_p0 31), .ref (ad_p0 32), .int p0_faultNow, .int p0_hasTree, .int p0_treeSize, .ref (ad_p0 36), .ref (ad_p0 37), .ref (ad_p0 38), .ref (ad_p0 39), .ref (ad_p0 40), .ref (ad_p0 41), .ref (ad_p0 42), .int p0_weightCount, .ref (ad_p0 44), .int p0_roundCount, .ref (ad_p0 46), .int p0_setCount, .ref (ad_p0 48), .ref (ad_p0 49)])), ((ad_p0 30), .inl (cI, 128000, .inl p0_next))]
abbrev q_X10_leastIdle (dC : Nat → ClassId) (dI : Nat → Nat → Nat) (cI cJ cZ : ClassId) (h_p0 : Nat) (ad_p0 : Nat → Nat) (p0_places : Int32) (p0_steps : Int32) (p0_pastFirst : Int32) (p0_past : Int32) (p0_goings : Int32) (p0_rowSize : Int32) (p0_ways : Int32) (p0_hasField : Int32) (p0_fieldSize : Int32) (p0_faultNow : Int32) (p0_hasTree : Int32) (p0_treeSize : Int32) (p0_weightCount : Int32) (p0_roundCount : Int32) (p0_setCount : Int32) (p0_next : Nat → Int32) (post : Int32 → Prop) (A : Nat → Prop) : Array Value → State → Outcome → State → Prop := va_Qi (fun r (u : Unit) => post r ) (fun (u : Unit) t => xPost (dC, dI) A (wld_X10_leastIdle cI cJ cZ h_p0 ad_p0 p0_places p0_steps p0_pastFirst p0_past p0_goings p0_rowSize p0_ways p0_hasField p0_fieldSize p0_faultNow p0_hasTree p0_treeSize p0_weightCount p0_roundCount p0_setCount p0_next) t) A
def w_X10_leastIdle_L14b (v1 : Int32) (p0_fieldSize : Int32) (p0_steps : Int32) (p0_next : Nat → Int32) (post : Int32 → Prop) (K : (Int32) → (Int32) → Prop) (rec : (Int32) → (Int32) → Prop) (v2 : Int32) (v3 : Int32) : Prop :=
    (p0_fieldSize ≤ v3 →
      K v2 v3) ∧
    (¬ p0_fieldSize ≤ v3 →
      (¬ v2 = 0 →
        ∀ x7 : Int32, x7 = v3 + (1 : Int32) →
        rec (1 : Int32) x7) ∧
      (v2 = 0 →
        vp_in (((16 : Int32) * v3) + v1) 128000 ∧
        ((p0_next (((16 : Int32) * v3) + v1).toNatClampNeg) = (-2000000005 : Int32) →
          ∀ x10 : Int32, x10 = v3 + (1 : Int32) →
          rec (0 : Int32) x10) ∧
        (¬ (p0_next (((16 : Int32) * v3) + v1).toNatClampNeg) = (-2000000005 : Int32) →
          ∀ x11 : Int32, x11 = v3 + (1 : Int32) →
          rec (1 : Int32) x11)))
def w_X10_leastIdle_L14 (v1 : Int32) (p0_fieldSize : Int32) (p0_steps : Int32) (p0_next : Nat → Int32) (post : Int32 → Prop) (K : (Int32) → (Int32) → Prop) : Nat → (Int32) → (Int32) → Prop
  | 0, _, _ => False
  | n + 1, v2, v3 => w_X10_leastIdle_L14b v1 p0_fieldSize p0_steps p0_next post K (w_X10_leastIdle_L14 v1 p0_fieldSize p0_steps p0_next post K n) v2 v3
def w_X10_leastIdle_L2b (p0_fieldSize : Int32) (p0_steps : Int32) (p0_next : Nat → Int32) (post : Int32 → Prop) (K : (Int32) → Prop) (rec : (Int32) → Prop) (v1 : Int32) : Prop :=
    (p0_steps ≤ v1 →
      K v1) ∧
    (¬ p0_steps ≤ v1 →
      ∃ n : Nat, w_X10_leastIdle_L14 v1 p0_fieldSize p0_steps p0_next post (fun v13 v14 =>
          (¬ v13 = 0 →
            ∀ x17 : Int32, x17 = v1 + (1 : Int32) →
            rec x17) ∧
          (v13 = 0 →
            (post v1))) n (0 : Int32) (0 : Int32))
def w_X10_leastIdle_L2 (p0_fieldSize : Int32) (p0_steps : Int32) (p0_next : Nat → Int32) (post : Int32 → Prop) (K : (Int32) → Prop) : Nat → (Int32) → Prop
  | 0, _ => False
  | n + 1, v1 => w_X10_leastIdle_L2b p0_fieldSize p0_steps p0_next post K (w_X10_leastIdle_L2 p0_fieldSize p0_steps p0_next post K n) v1
def w_X10_leastIdle (p0_fieldSize : Int32) (p0_steps : Int32) (p0_next : Nat → Int32) (post : Int32 → Prop) : Prop :=
  ∃ n : Nat, w_X10_leastIdle_L2 p0_fieldSize p0_steps p0_next post (fun v19 =>
      (post (-2000000005 : Int32))) n (0 : Int32)
set_option maxHeartbeats 4000000 in
set_option maxRecDepth 100000 in
theorem c_X10_leastIdle_L14 {p : Program} {l : Launch} {e : Env} {s : State} {m : MethodId} {args : Array Value} {below : List Frame} {meth : Method} {c : Code} {dC : Nat → ClassId} {dI : Nat → Nat → Nat} {A : Nat → Prop} {cI cJ cZ : ClassId} {h_p0 : Nat} {ad_p0 : Nat → Nat} {p0_places : Int32} {p0_steps : Int32} {p0_pastFirst : Int32} {p0_past : Int32} {p0_goings : Int32} {p0_rowSize : Int32} {p0_ways : Int32} {p0_hasField : Int32} {p0_fieldSize : Int32} {p0_faultNow : Int32} {p0_hasTree : Int32} {p0_treeSize : Int32} {p0_weightCount : Int32} {p0_roundCount : Int32} {p0_setCount : Int32} {p0_next : Nat → Int32} {v1 : Int32}  {post : Int32 → Prop} {K : (Int32) → (Int32) → Prop} (E0 : xEnv p s m args meth c cX10_leastIdle (some .int) 4 RX10 wsX10_leastIdle (dC, dI) cI cJ cZ A) (hk : ∀ (v2 : Int32) (v3 : Int32) (H : Heap) (locs : List Loc) (ls : Array Slot), K v2 v3 → va_P (dC, dI) vwCl (wld_X10_leastIdle cI cJ cZ h_p0 ad_p0 p0_places p0_steps p0_pastFirst p0_past p0_goings p0_rowSize p0_ways p0_hasField p0_fieldSize p0_faultNow p0_hasTree p0_treeSize p0_weightCount p0_roundCount p0_setCount p0_next) H → va_D A (wld_X10_leastIdle cI cJ cZ h_p0 ad_p0 p0_places p0_steps p0_pastFirst p0_past p0_goings p0_rowSize p0_ways p0_hasField p0_fieldSize p0_faultNow p0_hasTree p0_treeSize p0_weightCount p0_roundCount p0_setCount p0_next) → va_S A s.heap H locs → lv_has ls 4 [(0, .ref h_p0), (1, .int v1), (2, .int v2)] → W p l e ({ frames := 0, cells := 0, slots := 0, locals := 0 }) s m args below meth c H locs 0 0 (MQ below (q_X10_leastIdle dC dI cI cJ cZ h_p0 ad_p0 p0_places p0_steps p0_pastFirst p0_past p0_goings p0_rowSize p0_ways p0_hasField p0_fieldSize p0_faultNow p0_hasTree p0_treeSize p0_weightCount p0_roundCount p0_setCount p0_next post A) args s 0 0 A) (F0 m 54 ls [])) : ∀ (n : Nat) (v2 : Int32) (v3 : Int32), w_X10_leastIdle_L14 v1 p0_fieldSize p0_steps p0_next post K n v2 v3 → ∀ (H : Heap) (locs : List Loc) (ls : Array Slot), va_P (dC, dI) vwCl (wld_X10_leastIdle cI cJ cZ h_p0 ad_p0 p0_places p0_steps p0_pastFirst p0_past p0_goings p0_rowSize p0_ways p0_hasField p0_fieldSize p0_faultNow p0_hasTree p0_treeSize p0_weightCount p0_roundCount p0_setCount p0_next) H → va_D A (wld_X10_leastIdle cI cJ cZ h_p0 ad_p0 p0_places p0_steps p0_pastFirst p0_past p0_goings p0_rowSize p0_ways p0_hasField p0_fieldSize p0_faultNow p0_hasTree p0_treeSize p0_weightCount p0_roundCount p0_setCount p0_next) → va_S A s.heap H locs → lv_has ls 4 [(0, .ref h_p0), (1, .int v1), (2, .int v2), (3, .int v3)] → W p l e ({ frames := 0, cells := 0, slots := 0, locals := 0 }) s m args below meth c H locs 0 0 (MQ below (q_X10_leastIdle dC dI cI cJ cZ h_p0 ad_p0 p0_places p0_steps p0_pastFirst p0_past p0_goings p0_rowSize p0_ways p0_hasField p0_fieldSize p0_faultNow p0_hasTree p0_treeSize p0_weightCount p0_roundCount p0_setCount p0_next post A) args s 0 0 A) (F0 m 14 ls []) := by
  obtain ⟨hx, hb, hr, hml, hown, hts, hlocks, hK, hA, n1, n2⟩ := id E0
  have iX10 : ∀ w ∈ u_ws RX10 TX10 50, w ∈ wsX10_leastIdle := fun w h => List.mem_cons_of_mem _ (List.mem_append_right _ h)
  intro n
  induction n with
  | zero => intro v2 v3 hw; exact hw.elim
  | succ n ih =>
    intro v2 v3 hw H locs ls hP hD hS hl
    have hw : w_X10_leastIdle_L14b v1 p0_fieldSize p0_steps p0_next post K (w_X10_leastIdle_L14 v1 p0_fieldSize p0_steps p0_next post K n) v2 v3 := hw
    unfold w_X10_leastIdle_L14b at hw
    refine lv_iload_n hx hb dX10_leastIdle_14 rfl (lv_at hl 3 rfl) ?_
    refine lv_aload_n hx hb dX10_leastIdle_15 rfl (lv_at hl 0 rfl) ?_
    refine va_get (D := (dC, dI)) (ci := 10) (v := .int p0_fieldSize) (C := RX10) (T := TX10) (N := 50) hx hb hts iX10 hown hK hP 0 rfl rfl 25 (by decide) (hts (.fieldLink RX10 124 "NetHouseModel" "fieldSize" "I") (by decide +kernel)) (fun _ h9 => h9) rfl dX10_leastIdle_16 ?_
    refine lv_icmp_ge (tgt := 54) hx hb dX10_leastIdle_19 (by decide) (fun c3 => ?_) (fun c4 => ?_)
    · have hw := hw.1 c3
      exact hk _ _ _ _ _ hw hP hD hS (lv_sub hl [0, 1, 2] rfl)
    · have hw := hw.2 c4
      refine lv_iload_n hx hb dX10_leastIdle_22 rfl (lv_at hl 2 rfl) ?_
      refine lv_if_ne (tgt := 42) hx hb dX10_leastIdle_23 (by decide) (fun c5 => ?_) (fun c6 => ?_)
      · have hw := hw.1 c5
        refine lv_iconst (v := 1) hx hb dX10_leastIdle_42 (by decide) ?_
        refine lv_goto (tgt := 47) hx hb dX10_leastIdle_43 (by decide) ?_
        refine lv_istore_n (lv' := [(2, .int (1 : Int32)), (0, .ref h_p0), (1, .int v1), (3, .int v3)]) hx hb dX10_leastIdle_47 rfl hl (by decide) rfl (fun ls hl => ?_)
        obtain ⟨x7, ex7⟩ : ∃ y : Int32, y = v3 + (1 : Int32) := ⟨_, rfl⟩
        have hw := hw x7 ex7
        refine lv_iinc (v := x7) (lv' := [(3, .int x7), (2, .int (1 : Int32)), (0, .ref h_p0), (1, .int v1)]) hx hb dX10_leastIdle_48 hl (k := 3) rfl (by rw [ex7]; rfl) (by decide) rfl (fun ls hl => ?_)
        refine lv_goto (tgt := 14) hx hb dX10_leastIdle_51 (by decide) ?_
        exact ih _ _ hw _ _ _ hP hD hS (lv_sub hl [2, 3, 1, 0] rfl)
      · have hw := hw.2 c6
        refine lv_aload_n hx hb dX10_leastIdle_26 rfl (lv_at hl 0 rfl) ?_
        refine va_get (D := (dC, dI)) (ci := 10) (v := .ref (ad_p0 30)) (C := RX10) (T := TX10) (N := 50) hx hb hts iX10 hown hK hP 0 rfl rfl 30 (by decide) (hts (.fieldLink RX10 75 "NetHouseModel" "next" "[I") (by decide +kernel)) (fun _ h9 => h9) rfl dX10_leastIdle_27 ?_
        refine lv_bipush (v := 16) hx hb dX10_leastIdle_30 (by decide) ?_
        refine lv_iload_n hx hb dX10_leastIdle_32 rfl (lv_at hl 3 rfl) ?_
        refine lv_imul hx hb dX10_leastIdle_33 ?_
        refine lv_iload_n hx hb dX10_leastIdle_34 rfl (lv_at hl 1 rfl) ?_
        refine lv_iadd hx hb dX10_leastIdle_35 ?_
        refine va_iald hx hb hK hP 1 0 rfl rfl hw.1 dX10_leastIdle_36 ?_
        have hw := hw.2
        refine lv_ldc (v := -2000000005) hx hb hown (hts (.constant RX10 85 (-2000000005)) (by decide +kernel)) dX10_leastIdle_37 ?_
        refine lv_icmp_eq (tgt := 46) hx hb dX10_leastIdle_39 (by decide) (fun c8 => ?_) (fun c9 => ?_)
        · have hw := hw.1 c8
          refine lv_iconst (v := 0) hx hb dX10_leastIdle_46 (by decide) ?_
          refine lv_istore_n (lv' := [(2, .int (0 : Int32)), (0, .ref h_p0), (1, .int v1), (3, .int v3)]) hx hb dX10_leastIdle_47 rfl hl (by decide) rfl (fun ls hl => ?_)
          obtain ⟨x10, ex10⟩ : ∃ y : Int32, y = v3 + (1 : Int32) := ⟨_, rfl⟩
          have hw := hw x10 ex10
          refine lv_iinc (v := x10) (lv' := [(3, .int x10), (2, .int (0 : Int32)), (0, .ref h_p0), (1, .int v1)]) hx hb dX10_leastIdle_48 hl (k := 3) rfl (by rw [ex10]; rfl) (by decide) rfl (fun ls hl => ?_)
          refine lv_goto (tgt := 14) hx hb dX10_leastIdle_51 (by decide) ?_
          exact ih _ _ hw _ _ _ hP hD hS (lv_sub hl [2, 3, 1, 0] rfl)
        · have hw := hw.2 c9
          refine lv_iconst (v := 1) hx hb dX10_leastIdle_42 (by decide) ?_
          refine lv_goto (tgt := 47) hx hb dX10_leastIdle_43 (by decide) ?_
          refine lv_istore_n (lv' := [(2, .int (1 : Int32)), (0, .ref h_p0), (1, .int v1), (3, .int v3)]) hx hb dX10_leastIdle_47 rfl hl (by decide) rfl (fun ls hl => ?_)
          obtain ⟨x11, ex11⟩ : ∃ y : Int32, y = v3 + (1 : Int32) := ⟨_, rfl⟩
          have hw := hw x11 ex11
          refine lv_iinc (v := x11) (lv' := [(3, .int x11), (2, .int (1 : Int32)), (0, .ref h_p0), (1, .int v1)]) hx hb dX10_leastIdle_48 hl (k := 3) rfl (by rw [ex11]; rfl) (by decide) rfl (fun ls hl => ?_)
          refine lv_goto (tgt := 14) hx hb dX10_leastIdle_51 (by decide) ?_
          exact ih _ _ hw _ _ _ hP hD hS (lv_sub hl [2, 3, 1, 0] rfl)
set_option maxHeartbeats 4000000 in
set_option maxRecDepth 100000 in
theorem c_X10_leastIdle_L2 {p : Program} {l : Launch} {e : Env} {s : State} {m : MethodId} {args : Array Value} {below : List Frame} {meth : Method} {c : Code} {dC : Nat → ClassId} {dI : Nat → Nat → Nat} {A : Nat → Prop} {cI cJ cZ : ClassId} {h_p0 : Nat} {ad_p0 : Nat → Nat} {p0_places : Int32} {p0_steps : Int32} {p0_pastFirst : Int32} {p0_past : Int32} {p0_goings : Int32} {p0_rowSize : Int32} {p0_ways : Int32} {p0_hasField : Int32} {p0_fieldSize : Int32} {p0_faultNow : Int32} {p0_hasTree : Int32} {p0_treeSize : Int32} {p0_weightCount : Int32} {p0_roundCount : Int32} {p0_setCount : Int32} {p0_next : Nat → Int32}  {post : Int32 → Prop} {K : (Int32) → Prop} (E0 : xEnv p s m args meth c cX10_leastIdle (some .int) 4 RX10 wsX10_leastIdle (dC, dI) cI cJ cZ A) (hk : ∀ (v1 : Int32) (H : Heap) (locs : List Loc) (ls : Array Slot), K v1 → va_P (dC, dI) vwCl (wld_X10_leastIdle cI cJ cZ h_p0 ad_p0 p0_places p0_steps p0_pastFirst p0_past p0_goings p0_rowSize p0_ways p0_hasField p0_fieldSize p0_faultNow p0_hasTree p0_treeSize p0_weightCount p0_roundCount p0_setCount p0_next) H → va_D A (wld_X10_leastIdle cI cJ cZ h_p0 ad_p0 p0_places p0_steps p0_pastFirst p0_past p0_goings p0_rowSize p0_ways p0_hasField p0_fieldSize p0_faultNow p0_hasTree p0_treeSize p0_weightCount p0_roundCount p0_setCount p0_next) → va_S A s.heap H locs → lv_has ls 4 [] → W p l e ({ frames := 0, cells := 0, slots := 0, locals := 0 }) s m args below meth c H locs 0 0 (MQ below (q_X10_leastIdle dC dI cI cJ cZ h_p0 ad_p0 p0_places p0_steps p0_pastFirst p0_past p0_goings p0_rowSize p0_ways p0_hasField p0_fieldSize p0_faultNow p0_hasTree p0_treeSize p0_weightCount p0_roundCount p0_setCount p0_next post A) args s 0 0 A) (F0 m 66 ls [])) : ∀ (n : Nat) (v1 : Int32), w_X10_leastIdle_L2 p0_fieldSize p0_steps p0_next post K n v1 → ∀ (H : Heap) (locs : List Loc) (ls : Array Slot), va_P (dC, dI) vwCl (wld_X10_leastIdle cI cJ cZ h_p0 ad_p0 p0_places p0_steps p0_pastFirst p0_past p0_goings p0_rowSize p0_ways p0_hasField p0_fieldSize p0_faultNow p0_hasTree p0_treeSize p0_weightCount p0_roundCount p0_setCount p0_next) H → va_D A (wld_X10_leastIdle cI cJ cZ h_p0 ad_p0 p0_places p0_steps p0_pastFirst p0_past p0_goings p0_rowSize p0_ways p0_hasField p0_fieldSize p0_faultNow p0_hasTree p0_treeSize p0_weightCount p0_roundCount p0_setCount p0_next) → va_S A s.heap H locs → lv_has ls 4 [(0, .ref h_p0), (1, .int v1)] → W p l e ({ frames := 0, cells := 0, slots := 0, locals := 0 }) s m args below meth c H locs 0 0 (MQ below (q_X10_leastIdle dC dI cI cJ cZ h_p0 ad_p0 p0_places p0_steps p0_pastFirst p0_past p0_goings p0_rowSize p0_ways p0_hasField p0_fieldSize p0_faultNow p0_hasTree p0_treeSize p0_weightCount p0_roundCount p0_setCount p0_next post A) args s 0 0 A) (F0 m 2 ls []) := by
  obtain ⟨hx, hb, hr, hml, hown, hts, hlocks, hK, hA, n1, n2⟩ := id E0
  have iX10 : ∀ w ∈ u_ws RX10 TX10 50, w ∈ wsX10_leastIdle := fun w h => List.mem_cons_of_mem _ (List.mem_append_right _ h)
  intro n
  induction n with
  | zero => intro v1 hw; exact hw.elim
  | succ n ih =>
    intro v1 hw H locs ls hP hD hS hl
    have hw : w_X10_leastIdle_L2b p0_fieldSize p0_steps p0_next post K (w_X10_leastIdle_L2 p0_fieldSize p0_steps p0_next post K n) v1 := hw
    unfold w_X10_leastIdle_L2b at hw
    refine lv_iload_n hx hb dX10_leastIdle_2 rfl (lv_at hl 1 rfl) ?_
    refine lv_aload_n hx hb dX10_leastIdle_3 rfl (lv_at hl 0 rfl) ?_
    refine va_get (D := (dC, dI)) (ci := 10) (v := .int p0_steps) (C := RX10) (T := TX10) (N := 50) hx hb hts iX10 hown hK hP 0 rfl rfl 1 (by decide) (hts (.fieldLink RX10 130 "NetHouseModel" "steps" "I") (by decide +kernel)) (fun _ h9 => h9) rfl dX10_leastIdle_4 ?_
    refine lv_icmp_ge (tgt := 66) hx hb dX10_leastIdle_7 (by decide) (fun c1 => ?_) (fun c2 => ?_)
    · have hw := hw.1 c1
      exact hk _ _ _ _ hw hP hD hS (lv_sub hl [] rfl)
    · have hw := hw.2 c2
      refine lv_iconst (v := 0) hx hb dX10_leastIdle_10 (by decide) ?_
      refine lv_istore_n (lv' := [(2, .int (0 : Int32)), (0, .ref h_p0), (1, .int v1)]) hx hb dX10_leastIdle_11 rfl hl (by decide) rfl (fun ls hl => ?_)
      refine lv_iconst (v := 0) hx hb dX10_leastIdle_12 (by decide) ?_
      refine lv_istore_n (lv' := [(3, .int (0 : Int32)), (2, .int (0 : Int32)), (0, .ref h_p0), (1, .int v1)]) hx hb dX10_leastIdle_13 rfl hl (by decide) rfl (fun ls hl => ?_)
      obtain ⟨n12, hw⟩ := hw
      refine c_X10_leastIdle_L14 (l := l)  E0 ?_ n12 _ _ hw _ _ _ hP hD hS (lv_sub hl [2, 3, 1, 0] rfl)
      · intro v13 v14 H locs ls hw hP hD hS hl
        have hP : va_P (dC, dI) vwCl (wld_X10_leastIdle cI cJ cZ h_p0 ad_p0 p0_places p0_steps p0_pastFirst p0_past p0_goings p0_rowSize p0_ways p0_hasField p0_fieldSize p0_faultNow p0_hasTree p0_treeSize p0_weightCount p0_roundCount p0_setCount p0_next) H := hP
        have hD : va_D A (wld_X10_leastIdle cI cJ cZ h_p0 ad_p0 p0_places p0_steps p0_pastFirst p0_past p0_goings p0_rowSize p0_ways p0_hasField p0_fieldSize p0_faultNow p0_hasTree p0_treeSize p0_weightCount p0_roundCount p0_setCount p0_next) := hD
        refine lv_iload_n hx hb dX10_leastIdle_54 rfl (lv_at hl 2 rfl) ?_
        refine lv_if_ne (tgt := 60) hx hb dX10_leastIdle_55 (by decide) (fun c15 => ?_) (fun c16 => ?_)
        · have hw := hw.1 c15
          obtain ⟨x17, ex17⟩ : ∃ y : Int32, y = v1 + (1 : Int32) := ⟨_, rfl⟩
          have hw := hw x17 ex17
          refine lv_iinc (v := x17) (lv' := [(1, .int x17), (0, .ref h_p0), (2, .int v13)]) hx hb dX10_leastIdle_60 hl (k := 1) rfl (by rw [ex17]; rfl) (by decide) rfl (fun ls hl => ?_)
          refine lv_goto (tgt := 2) hx hb dX10_leastIdle_63 (by decide) ?_
          exact ih _ hw _ _ _ hP hD hS (lv_sub hl [1, 0] rfl)
        · have hw := hw.2 c16
          refine lv_iload_n hx hb dX10_leastIdle_58 rfl (lv_at hl 1 rfl) ?_
          exact x_iret (w1 := fun (u : Unit) => (wld_X10_leastIdle cI cJ cZ h_p0 ad_p0 p0_places p0_steps p0_pastFirst p0_past p0_goings p0_rowSize p0_ways p0_hasField p0_fieldSize p0_faultNow p0_hasTree p0_treeSize p0_weightCount p0_roundCount p0_setCount p0_next)) hx hb hr hlocks () hw hP hD hS dX10_leastIdle_59
set_option maxHeartbeats 4000000 in
set_option maxRecDepth 100000 in
theorem c_X10_leastIdle {l : Launch} {dC : Nat → ClassId} {dI : Nat → Nat → Nat} {sz : Nat} {cI cJ cZ : ClassId} {h_p0 : Nat} {ad_p0 : Nat → Nat} {p0_places : Int32} {p0_steps : Int32} {p0_pastFirst : Int32} {p0_past : Int32} {p0_goings : Int32} {p0_rowSize : Int32} {p0_ways : Int32} {p0_hasField : Int32} {p0_fieldSize : Int32} {p0_faultNow : Int32} {p0_hasTree : Int32} {p0_treeSize : Int32} {p0_weightCount : Int32} {p0_roundCount : Int32} {p0_setCount : Int32} {p0_next : Nat → Int32}  {post : Int32 → Prop} (hw : w_X10_leastIdle p0_fieldSize p0_steps p0_next post) : Met l yX10_leastIdle wsX10_leastIdle ({ frames := 0, cells := 0, slots := 0, locals := 0 }) (va_Pc [.ref h_p0] (xPre (dC, dI) cI cJ cZ (wld_X10_leastIdle cI cJ cZ h_p0 ad_p0 p0_places p0_steps p0_pastFirst p0_past p0_goings p0_rowSize p0_ways p0_hasField p0_fieldSize p0_faultNow p0_hasTree p0_treeSize p0_weightCount p0_roundCount p0_setCount p0_next) sz)) (q_X10_leastIdle dC dI cI cJ cZ h_p0 ad_p0 p0_places p0_steps p0_pastFirst p0_past p0_goings p0_rowSize p0_ways p0_hasField p0_fieldSize p0_faultNow p0_hasTree p0_treeSize p0_weightCount p0_roundCount p0_setCount p0_next post (va_A (wld_X10_leastIdle cI cJ cZ h_p0 ad_p0 p0_places p0_steps p0_pastFirst p0_past p0_goings p0_rowSize p0_ways p0_hasField p0_fieldSize p0_faultNow p0_hasTree p0_treeSize p0_weightCount p0_roundCount p0_setCount p0_next) sz)) 0 0 (va_A (wld_X10_leastIdle cI cJ cZ h_p0 ad_p0 p0_places p0_steps p0_pastFirst p0_past p0_goings p0_rowSize p0_ways p0_hasField p0_fieldSize p0_faultNow p0_hasTree p0_treeSize p0_weightCount p0_roundCount p0_setCount p0_next) sz) := by
  refine x_met (cc := cX10_leastIdle) (maxL := 4) (ret := (some .int)) (own := RX10) (Qc := fun A => (q_X10_leastIdle dC dI cI cJ cZ h_p0 ad_p0 p0_places p0_steps p0_pastFirst p0_past p0_goings p0_rowSize p0_ways p0_hasField p0_fieldSize p0_faultNow p0_hasTree p0_treeSize p0_weightCount p0_roundCount p0_setCount p0_next post A)) (by decide) rfl rfl (Nat.le_of_ble_eq_true rfl) ?_
  intro p e s m args below meth c A ls E0 hP hD hS hl
  obtain ⟨hx, hb, hr, hml, hown, hts, hlocks, hK, hA, n1, n2⟩ := id E0
  have iX10 : ∀ w ∈ u_ws RX10 TX10 50, w ∈ wsX10_leastIdle := fun w h => List.mem_cons_of_mem _ (List.mem_append_right _ h)
  have hS0 := hS
  have hl : lv_has ls 4 [(0, .ref h_p0)] := hl
  unfold w_X10_leastIdle at hw
  obtain ⟨H, hH⟩ : ∃ H, H = s.heap := ⟨_, rfl⟩
  have hS : va_S A s.heap H [] := by rw [hH]; exact hS
  have hP : va_P (dC, dI) vwCl (wld_X10_leastIdle cI cJ cZ h_p0 ad_p0 p0_places p0_steps p0_pastFirst p0_past p0_goings p0_rowSize p0_ways p0_hasField p0_fieldSize p0_faultNow p0_hasTree p0_treeSize p0_weightCount p0_roundCount p0_setCount p0_next) H := by rw [hH]; exact hP
  suffices hG : W p l e ({ frames := 0, cells := 0, slots := 0, locals := 0 }) s m args below meth c H [] 0 0 (MQ below (q_X10_leastIdle dC dI cI cJ cZ h_p0 ad_p0 p0_places p0_steps p0_pastFirst p0_past p0_goings p0_rowSize p0_ways p0_hasField p0_fieldSize p0_faultNow p0_hasTree p0_treeSize p0_weightCount p0_roundCount p0_setCount p0_next post A) args s 0 0 A) (F0 m 0 ls []) by rw [hH] at hG; exact hG
  clear hH
  refine lv_iconst (v := 0) hx hb dX10_leastIdle_0 (by decide) ?_
  refine lv_istore_n (lv' := [(1, .int (0 : Int32)), (0, .ref h_p0)]) hx hb dX10_leastIdle_1 rfl hl (by decide) rfl (fun ls hl => ?_)
  obtain ⟨n18, hw⟩ := hw
  refine c_X10_leastIdle_L2 (l := l)  E0 ?_ n18 _ hw _ _ _ hP hD hS (lv_sub hl [1, 0] rfl)
  · intro v19 H locs ls hw hP hD hS hl
    have hP : va_P (dC, dI) vwCl (wld_X10_leastIdle cI cJ cZ h_p0 ad_p0 p0_places p0_steps p0_pastFirst p0_past p0_goings p0_rowSize p0_ways p0_hasField p0_fieldSize p0_faultNow p0_hasTree p0_treeSize p0_weightCount p0_roundCount p0_setCount p0_next) H := hP
    have hD : va_D A (wld_X10_leastIdle cI cJ cZ h_p0 ad_p0 p0_places p0_steps p0_pastFirst p0_past p0_goings p0_rowSize p0_ways p0_hasField p0_fieldSize p0_faultNow p0_hasTree p0_treeSize p0_weightCount p0_roundCount p0_setCount p0_next) := hD
    refine lv_ldc (v := -2000000005) hx hb hown (hts (.constant RX10 85 (-2000000005)) (by decide +kernel)) dX10_leastIdle_66 ?_
    exact x_iret (w1 := fun (u : Unit) => (wld_X10_leastIdle cI cJ cZ h_p0 ad_p0 p0_places p0_steps p0_pastFirst p0_past p0_goings p0_rowSize p0_ways p0_hasField p0_fieldSize p0_faultNow p0_hasTree p0_treeSize p0_weightCount p0_roundCount p0_setCount p0_next)) hx hb hr hlocks () hw hP hD hS dX10_leastIdle_68
abbrev wld_X10_works (cI cJ cZ : ClassId) (h_p0 : Nat) (ad_p0 : Nat → Nat) (p0_places : Int32) (p0_steps : Int32) (p0_pastFirst : Int32) (p0_past : Int32) (p0_goings : Int32) (p0_rowSize : Int32) (p0_ways : Int32) (p0_hasField : Int32) (p0_fieldSize : Int32) (p0_faultNow : Int32) (p0_hasTree : Int32) (p0_treeSize : Int32) (p0_weightCount : Int32) (p0_roundCount : Int32) (p0_setCount : Int32) (p0_by : Nat → Int32) (p0_closes : Nat → Int32) (p0_colour : Nat → Int32) (p0_come : Nat → Int32) (p0_field : Nat → Int32) (p0_former : Nat → Int32) (p0_leads : Nat → Int32) (p0_needs : Nat → Int32) (p0_next : Nat → Int32) (p0_order : Nat → Int32) (p0_puts : Nat → Int32) (p0_sort : Nat → Int32) (p0_takes : Nat → Int32) : va_W := [(h_p0, .inr (10, [.int p0_places, .int p0_steps, .ref (ad_p0 2), .ref (ad_p0 3), .ref (ad_p0 4), .ref (ad_p0 5), .ref (ad_p0 6), .ref (ad_p0 7), .ref (ad_p0 8), .ref (ad_p0 9), .ref (ad_p0 10), .ref (ad_p0 11), .ref (ad_p0 12), .ref (ad_p0 13), .ref (ad_p0 14), .int p0_pastFirst, .int p0_past, .int p0_goings, .int p0_rowSize, .ref (ad_p0 19), .ref (ad_p0 20), .int p0_ways, .ref (ad_p0 22), .ref (ad_p0 23), .int p0_hasField, .int p0_fieldSize, .ref (ad_p0 26), .ref (ad_p0 27), .ref (ad_p0 28), .ref (ad_p0 29), .ref (ad_p0 30), .ref (ad_p0 31), .ref (ad_p0 32), .int p0_faultNow, .int p0_hasTree, .int p0_treeSize, .ref (ad_p0 36), .ref (ad_p0 37), .ref (ad_p0 38), .ref (ad_p0 39), .ref (ad_p0 40), .ref (ad_p0 41), .ref (ad_p0 42), .int p0_weightCount, .ref (ad_p0 44), .int p0_roundCount, .ref (ad_p0 46), .int p0_setCount, .ref (ad_p0 48), .ref (ad_p0 49)])), ((ad_p0 29), .inl (cI, 8000, .inl p0_by)), ((ad_p0 7), .inl (cI, 256, .inl p0_closes)), ((ad_p0 2), .inl (cI, 16, .inl p0_colour)), ((ad_p0 31), .inl (cI, 16, .inl p0_come)), ((ad_p0 26), .inl (cI, 128000, .inl p0_field)), ((ad_p0 28), .inl (cI, 8000, .inl p0_former)), ((ad_p0 32), .inl (cZ, 8000, .inl p0_leads)), ((ad_p0 6), .inl (cI, 256, .inl p0_needs)), ((ad_p0 30), .inl (cI, 128000, .inl p0_next)), ((ad_p0 27), .inl (cI, 8000, .inl p0_order)), ((ad_p0 5), .inl (cI, 256, .inl p0_puts)), ((ad_p0 3), .inl (cI, 16, .inl p0_sort)), ((ad_p0 4), .inl (cI, 256, .inl p0_takes))]
abbrev q_X10_works (dC : Nat → ClassId) (dI : Nat → Nat → Nat) (cI cJ cZ : ClassId) (h_p0 : Nat) (ad_p0 : Nat → Nat) (p0_places : Int32) (p0_steps : Int32) (p0_pastFirst : Int32) (p0_past : Int32) (p0_goings : Int32) (p0_rowSize : Int32) (p0_ways : Int32) (p0_hasField : Int32) (p0_fieldSize : Int32) (p0_faultNow : Int32) (p0_hasTree : Int32) (p0_treeSize : Int32) (p0_weightCount : Int32) (p0_roundCount : Int32) (p0_setCount : Int32) (p0_by : Nat → Int32) (p0_closes : Nat → Int32) (p0_colour : Nat → Int32) (p0_come : Nat → Int32) (p0_field : Nat → Int32) (p0_former : Nat → Int32) (p0_leads : Nat → Int32) (p0_needs : Nat → Int32) (p0_next : Nat → Int32) (p0_order : Nat → Int32) (p0_puts : Nat → Int32) (p0_sort : Nat → Int32) (p0_takes : Nat → Int32) (post : Int32 → (Int32) → (Int32) → (Int32) → (Nat → Int32) → (Nat → Int32) → (Nat → Int32) → (Nat → Int32) → (Nat → Int32) → (Nat → Int32) → (Nat → Int32) → Prop) (A : Nat → Prop) : Array Value → State → Outcome → State → Prop := va_Qi (fun r (u : (Int32) × (Int32) × (Int32) × (Nat → Int32) × (Nat → Int32) × (Nat → Int32) × (Nat → Int32) × (Nat → Int32) × (Nat → Int32) × (Nat → Int32)) => post r (u.1) (u.2.1) (u.2.2.1) (u.2.2.2.1) (u.2.2.2.2.1) (u.2.2.2.2.2.1) (u.2.2.2.2.2.2.1) (u.2.2.2.2.2.2.2.1) (u.2.2.2.2.2.2.2.2.1) (u.2.2.2.2.2.2.2.2.2)) (fun (u : (Int32) × (Int32) × (Int32) × (Nat → Int32) × (Nat → Int32) × (Nat → Int32) × (Nat → Int32) × (Nat → Int32) × (Nat → Int32) × (Nat → Int32)) t => xPost (dC, dI) A (wld_X10_works cI cJ cZ h_p0 ad_p0 p0_places p0_steps p0_pastFirst p0_past p0_goings p0_rowSize p0_ways (u.2.2.1) (u.2.1) (u.1) p0_hasTree p0_treeSize p0_weightCount p0_roundCount p0_setCount (u.2.2.2.1) p0_closes p0_colour (u.2.2.2.2.1) (u.2.2.2.2.2.1) (u.2.2.2.2.2.2.1) (u.2.2.2.2.2.2.2.1) p0_needs (u.2.2.2.2.2.2.2.2.1) (u.2.2.2.2.2.2.2.2.2) p0_puts p0_sort p0_takes) t) A
def w_X10_works_L43b (v1 : Int32) (v2 : Int32) (v3 : Int32) (p0_faultNow : Int32) (p0_fieldSize : Int32) (p0_hasField : Int32) (p0_places : Int32) (p0_steps : Int32) (p0_by : Nat → Int32) (p0_closes : Nat → Int32) (p0_colour : Nat → Int32) (p0_field : Nat → Int32) (p0_former : Nat → Int32) (p0_leads : Nat → Int32) (p0_needs : Nat → Int32) (p0_next : Nat → Int32) (p0_order : Nat → Int32) (p0_puts : Nat → Int32) (p0_sort : Nat → Int32) (p0_takes : Nat → Int32) (post : Int32 → (Int32) → (Int32) → (Int32) → (Nat → Int32) → (Nat → Int32) → (Nat → Int32) → (Nat → Int32) → (Nat → Int32) → (Nat → Int32) → (Nat → Int32) → Prop) (K : (Int32) → (Nat → Int32) → Prop) (rec : (Int32) → (Nat → Int32) → Prop) (v4 : Int32) (p0_come : Nat → Int32) : Prop :=
    (p0_places ≤ v4 →
      K v4 p0_come) ∧
    (¬ p0_places ≤ v4 →
      (¬ v4 = v1 →
        vp_in v4 16 ∧
        ∀ x17 : Int32, x17 = v4 + (1 : Int32) →
        rec x17 (upd p0_come v4.toNatClampNeg (0 : Int32))) ∧
      (v4 = v1 →
        vp_in v4 16 ∧
        ∀ x18 : Int32, x18 = v4 + (1 : Int32) →
        rec x18 (upd p0_come v4.toNatClampNeg (1 : Int32))))
def w_X10_works_L43 (v1 : Int32) (v2 : Int32) (v3 : Int32) (p0_faultNow : Int32) (p0_fieldSize : Int32) (p0_hasField : Int32) (p0_places : Int32) (p0_steps : Int32) (p0_by : Nat → Int32) (p0_closes : Nat → Int32) (p0_colour : Nat → Int32) (p0_field : Nat → Int32) (p0_former : Nat → Int32) (p0_leads : Nat → Int32) (p0_needs : Nat → Int32) (p0_next : Nat → Int32) (p0_order : Nat → Int32) (p0_puts : Nat → Int32) (p0_sort : Nat → Int32) (p0_takes : Nat → Int32) (post : Int32 → (Int32) → (Int32) → (Int32) → (Nat → Int32) → (Nat → Int32) → (Nat → Int32) → (Nat → Int32) → (Nat → Int32) → (Nat → Int32) → (Nat → Int32) → Prop) (K : (Int32) → (Nat → Int32) → Prop) : Nat → (Int32) → (Nat → Int32) → Prop
  | 0, _, _ => False
  | n + 1, v4, p0_come => w_X10_works_L43b v1 v2 v3 p0_faultNow p0_fieldSize p0_hasField p0_places p0_steps p0_by p0_closes p0_colour p0_field p0_former p0_leads p0_needs p0_next p0_order p0_puts p0_sort p0_takes post K (w_X10_works_L43 v1 v2 v3 p0_faultNow p0_fieldSize p0_hasField p0_places p0_steps p0_by p0_closes p0_colour p0_field p0_former p0_leads p0_needs p0_next p0_order p0_puts p0_sort p0_takes post K n) v4 p0_come
def w_X10_works_L96b (v2 : Int32) (p0_faultNow : Int32) (p0_fieldSize : Int32) (p0_hasField : Int32) (p0_places : Int32) (p0_steps : Int32) (p0_by : Nat → Int32) (p0_closes : Nat → Int32) (p0_colour : Nat → Int32) (p0_field : Nat → Int32) (p0_former : Nat → Int32) (p0_leads : Nat → Int32) (p0_needs : Nat → Int32) (p0_next : Nat → Int32) (p0_order : Nat → Int32) (p0_puts : Nat → Int32) (p0_sort : Nat → Int32) (p0_takes : Nat → Int32) (post : Int32 → (Int32) → (Int32) → (Int32) → (Nat → Int32) → (Nat → Int32) → (Nat → Int32) → (Nat → Int32) → (Nat → Int32) → (Nat → Int32) → (Nat → Int32) → Prop) (K : (Int32) → (Nat → Int32) → Prop) (rec : (Int32) → (Nat → Int32) → Prop) (v5 : Int32) (p0_come : Nat → Int32) : Prop :=
    (p0_places ≤ v5 →
      K v5 p0_come) ∧
    (¬ p0_places ≤ v5 →
      (¬ v5 = v2 →
        vp_in v5 16 ∧
        ∀ x37 : Int32, x37 = v5 + (1 : Int32) →
        rec x37 (upd p0_come v5.toNatClampNeg (0 : Int32))) ∧
      (v5 = v2 →
        vp_in v5 16 ∧
        ∀ x38 : Int32, x38 = v5 + (1 : Int32) →
        rec x38 (upd p0_come v5.toNatClampNeg (1 : Int32))))
def w_X10_works_L96 (v2 : Int32) (p0_faultNow : Int32) (p0_fieldSize : Int32) (p0_hasField : Int32) (p0_places : Int32) (p0_steps : Int32) (p0_by : Nat → Int32) (p0_closes : Nat → Int32) (p0_colour : Nat → Int32) (p0_field : Nat → Int32) (p0_former : Nat → Int32) (p0_leads : Nat → Int32) (p0_needs : Nat → Int32) (p0_next : Nat → Int32) (p0_order : Nat → Int32) (p0_puts : Nat → Int32) (p0_sort : Nat → Int32) (p0_takes : Nat → Int32) (post : Int32 → (Int32) → (Int32) → (Int32) → (Nat → Int32) → (Nat → Int32) → (Nat → Int32) → (Nat → Int32) → (Nat → Int32) → (Nat → Int32) → (Nat → Int32) → Prop) (K : (Int32) → (Nat → Int32) → Prop) : Nat → (Int32) → (Nat → Int32) → Prop
  | 0, _, _ => False
  | n + 1, v5, p0_come => w_X10_works_L96b v2 p0_faultNow p0_fieldSize p0_hasField p0_places p0_steps p0_by p0_closes p0_colour p0_field p0_former p0_leads p0_needs p0_next p0_order p0_puts p0_sort p0_takes post K (w_X10_works_L96 v2 p0_faultNow p0_fieldSize p0_hasField p0_places p0_steps p0_by p0_closes p0_colour p0_field p0_former p0_leads p0_needs p0_next p0_order p0_puts p0_sort p0_takes post K n) v5 p0_come
def w_X10_works (p0_faultNow : Int32) (p0_fieldSize : Int32) (p0_hasField : Int32) (p0_places : Int32) (p0_steps : Int32) (p0_by : Nat → Int32) (p0_closes : Nat → Int32) (p0_colour : Nat → Int32) (p0_come : Nat → Int32) (p0_field : Nat → Int32) (p0_former : Nat → Int32) (p0_leads : Nat → Int32) (p0_needs : Nat → Int32) (p0_next : Nat → Int32) (p0_order : Nat → Int32) (p0_puts : Nat → Int32) (p0_sort : Nat → Int32) (p0_takes : Nat → Int32) (a1 : Int32) (a2 : Int32) (a3 : Int32) (post : Int32 → (Int32) → (Int32) → (Int32) → (Nat → Int32) → (Nat → Int32) → (Nat → Int32) → (Nat → Int32) → (Nat → Int32) → (Nat → Int32) → (Nat → Int32) → Prop) : Prop :=
  w_X10_isPlace p0_places a1 (fun r1 =>
  (r1 = 0 →
    (post (-2000000001 : Int32) p0_faultNow p0_fieldSize p0_hasField p0_by p0_come p0_field p0_former p0_leads p0_next p0_order)) ∧
  (¬ r1 = 0 →
    w_X10_isPlace p0_places a2 (fun r4 =>
    (r4 = 0 →
      (post (-2000000001 : Int32) p0_faultNow p0_fieldSize p0_hasField p0_by p0_come p0_field p0_former p0_leads p0_next p0_order)) ∧
    (¬ r4 = 0 →
      w_X10_isIn a3 (1 : Int32) (8000 : Int32) (fun r7 =>
      (¬ r7 = 0 →
        w_X10_hasColour p0_places p0_colour (fun r10 =>
        (r10 = 0 →
          ∃ n : Nat, w_X10_works_L43 a1 a2 a3 p0_faultNow p0_fieldSize p0_hasField p0_places p0_steps p0_by p0_closes p0_colour p0_field p0_former p0_leads p0_needs p0_next p0_order p0_puts p0_sort p0_takes post (fun v20 s21 =>
              w_X10_makeField p0_fieldSize p0_hasField p0_places p0_steps p0_by p0_closes s21 p0_field p0_former p0_needs p0_next p0_order p0_puts p0_sort p0_takes a3 (fun r22 y23 y24 y25 y26 y27 y28 y29 y30 =>
              (¬ r22 = (-2000000004 : Int32) →
                ∃ n : Nat, w_X10_works_L96 a2 p0_faultNow y23 y24 p0_places p0_steps y25 p0_closes p0_colour y27 y28 p0_leads p0_needs y29 y30 p0_puts p0_sort p0_takes post (fun v40 s41 =>
                    w_X10_numberOf y23 p0_places s41 y27 y30 (fun r42 =>
                    w_X10_leastNotTo y23 p0_steps p0_leads y29 r42 (fun r43 y44 =>
                    (r43 = (-2000000005 : Int32) →
                      w_X10_leastOther y23 y27 a2 r42 (fun r47 =>
                      (r47 = (-2000000005 : Int32) →
                        w_X10_leastIdle y23 p0_steps y29 (fun r50 =>
                        (r50 = (-2000000005 : Int32) →
                          (post (0 : Int32) r50 y23 y24 y25 s41 y27 y28 y44 y29 y30)) ∧
                        (¬ r50 = (-2000000005 : Int32) →
                          (post (3 : Int32) r50 y23 y24 y25 s41 y27 y28 y44 y29 y30)))) ∧
                      (¬ r47 = (-2000000005 : Int32) →
                        (post (2 : Int32) r47 y23 y24 y25 s41 y27 y28 y44 y29 y30)))) ∧
                    (¬ r43 = (-2000000005 : Int32) →
                      (post (1 : Int32) r43 y23 y24 y25 s41 y27 y28 y44 y29 y30))))) n (0 : Int32) y26) ∧
              (r22 = (-2000000004 : Int32) →
                (post (-2000000004 : Int32) p0_faultNow y23 y24 y25 y26 y27 y28 p0_leads y29 y30)))) n (0 : Int32) p0_come) ∧
        (¬ r10 = 0 →
          (post (-2000000002 : Int32) p0_faultNow p0_fieldSize p0_hasField p0_by p0_come p0_field p0_former p0_leads p0_next p0_order)))) ∧
      (r7 = 0 →
        (post (-2000000001 : Int32) p0_faultNow p0_fieldSize p0_hasField p0_by p0_come p0_field p0_former p0_leads p0_next p0_order)))))))
set_option maxHeartbeats 4000000 in
set_option maxRecDepth 100000 in
theorem c_X10_works_L43 {p : Program} {l : Launch} {e : Env} {s : State} {m : MethodId} {args : Array Value} {below : List Frame} {meth : Method} {c : Code} {dC : Nat → ClassId} {dI : Nat → Nat → Nat} {A : Nat → Prop} {cI cJ cZ : ClassId} {h_p0 : Nat} {ad_p0 : Nat → Nat} {p0_places : Int32} {p0_steps : Int32} {p0_pastFirst : Int32} {p0_past : Int32} {p0_goings : Int32} {p0_rowSize : Int32} {p0_ways : Int32} {p0_hasField : Int32} {p0_fieldSize : Int32} {p0_faultNow : Int32} {p0_hasTree : Int32} {p0_treeSize : Int32} {p0_weightCount : Int32} {p0_roundCount : Int32} {p0_setCount : Int32} {p0_by : Nat → Int32} {p0_closes : Nat → Int32} {p0_colour : Nat → Int32} {p0_field : Nat → Int32} {p0_former : Nat → Int32} {p0_leads : Nat → Int32} {p0_needs : Nat → Int32} {p0_next : Nat → Int32} {p0_order : Nat → Int32} {p0_puts : Nat → Int32} {p0_sort : Nat → Int32} {p0_takes : Nat → Int32} {v1 : Int32} {v2 : Int32} {v3 : Int32} {z_p0_come : Nat → Int32} {post : Int32 → (Int32) → (Int32) → (Int32) → (Nat → Int32) → (Nat → Int32) → (Nat → Int32) → (Nat → Int32) → (Nat → Int32) → (Nat → Int32) → (Nat → Int32) → Prop} {K : (Int32) → (Nat → Int32) → Prop} (E0 : xEnv p s m args meth c cX10_works (some .int) 6 RX10 wsX10_works (dC, dI) cI cJ cZ A) (hk : ∀ (v4 : Int32) (p0_come : Nat → Int32) (H : Heap) (locs : List Loc) (ls : Array Slot), K v4 p0_come → va_P (dC, dI) vwCl (wld_X10_works cI cJ cZ h_p0 ad_p0 p0_places p0_steps p0_pastFirst p0_past p0_goings p0_rowSize p0_ways p0_hasField p0_fieldSize p0_faultNow p0_hasTree p0_treeSize p0_weightCount p0_roundCount p0_setCount p0_by p0_closes p0_colour p0_come p0_field p0_former p0_leads p0_needs p0_next p0_order p0_puts p0_sort p0_takes) H → va_D A (wld_X10_works cI cJ cZ h_p0 ad_p0 p0_places p0_steps p0_pastFirst p0_past p0_goings p0_rowSize p0_ways p0_hasField p0_fieldSize p0_faultNow p0_hasTree p0_treeSize p0_weightCount p0_roundCount p0_setCount p0_by p0_closes p0_colour p0_come p0_field p0_former p0_leads p0_needs p0_next p0_order p0_puts p0_sort p0_takes) → va_S A s.heap H locs → lv_has ls 6 [(0, .ref h_p0), (2, .int v2), (3, .int v3)] → W p l e ({ frames := 5, cells := 0, slots := 0, locals := 122 }) s m args below meth c H locs 0 0 (MQ below (q_X10_works dC dI cI cJ cZ h_p0 ad_p0 p0_places p0_steps p0_pastFirst p0_past p0_goings p0_rowSize p0_ways p0_hasField p0_fieldSize p0_faultNow p0_hasTree p0_treeSize p0_weightCount p0_roundCount p0_setCount p0_by p0_closes p0_colour z_p0_come p0_field p0_former p0_leads p0_needs p0_next p0_order p0_puts p0_sort p0_takes post A) args s 0 0 A) (F0 m 76 ls [])) : ∀ (n : Nat) (v4 : Int32) (p0_come : Nat → Int32), w_X10_works_L43 v1 v2 v3 p0_faultNow p0_fieldSize p0_hasField p0_places p0_steps p0_by p0_closes p0_colour p0_field p0_former p0_leads p0_needs p0_next p0_order p0_puts p0_sort p0_takes post K n v4 p0_come → ∀ (H : Heap) (locs : List Loc) (ls : Array Slot), va_P (dC, dI) vwCl (wld_X10_works cI cJ cZ h_p0 ad_p0 p0_places p0_steps p0_pastFirst p0_past p0_goings p0_rowSize p0_ways p0_hasField p0_fieldSize p0_faultNow p0_hasTree p0_treeSize p0_weightCount p0_roundCount p0_setCount p0_by p0_closes p0_colour p0_come p0_field p0_former p0_leads p0_needs p0_next p0_order p0_puts p0_sort p0_takes) H → va_D A (wld_X10_works cI cJ cZ h_p0 ad_p0 p0_places p0_steps p0_pastFirst p0_past p0_goings p0_rowSize p0_ways p0_hasField p0_fieldSize p0_faultNow p0_hasTree p0_treeSize p0_weightCount p0_roundCount p0_setCount p0_by p0_closes p0_colour p0_come p0_field p0_former p0_leads p0_needs p0_next p0_order p0_puts p0_sort p0_takes) → va_S A s.heap H locs → lv_has ls 6 [(0, .ref h_p0), (1, .int v1), (2, .int v2), (3, .int v3), (4, .int v4)] → W p l e ({ frames := 5, cells := 0, slots := 0, locals := 122 }) s m args below meth c H locs 0 0 (MQ below (q_X10_works dC dI cI cJ cZ h_p0 ad_p0 p0_places p0_steps p0_pastFirst p0_past p0_goings p0_rowSize p0_ways p0_hasField p0_fieldSize p0_faultNow p0_hasTree p0_treeSize p0_weightCount p0_roundCount p0_setCount p0_by p0_closes p0_colour z_p0_come p0_field p0_former p0_leads p0_needs p0_next p0_order p0_puts p0_sort p0_takes post A) args s 0 0 A) (F0 m 43 ls []) := by
  obtain ⟨hx, hb, hr, hml, hown, hts, hlocks, hK, hA, n1, n2⟩ := id E0
  have iX10 : ∀ w ∈ u_ws RX10 TX10 50, w ∈ wsX10_works := fun w h => List.mem_cons_of_mem _ (List.mem_append_right _ h)
  intro n
  induction n with
  | zero => intro v4 p0_come hw; exact hw.elim
  | succ n ih =>
    intro v4 p0_come hw H locs ls hP hD hS hl
    have hw : w_X10_works_L43b v1 v2 v3 p0_faultNow p0_fieldSize p0_hasField p0_places p0_steps p0_by p0_closes p0_colour p0_field p0_former p0_leads p0_needs p0_next p0_order p0_puts p0_sort p0_takes post K (w_X10_works_L43 v1 v2 v3 p0_faultNow p0_fieldSize p0_hasField p0_places p0_steps p0_by p0_closes p0_colour p0_field p0_former p0_leads p0_needs p0_next p0_order p0_puts p0_sort p0_takes post K n) v4 p0_come := hw
    unfold w_X10_works_L43b at hw
    refine lv_iload hx hb dX10_works_43 (lv_at hl 4 rfl) ?_
    refine lv_aload_n hx hb dX10_works_45 rfl (lv_at hl 0 rfl) ?_
    refine va_get (D := (dC, dI)) (ci := 10) (v := .int p0_places) (C := RX10) (T := TX10) (N := 50) hx hb hts iX10 hown hK hP 0 rfl rfl 0 (by decide) (hts (.fieldLink RX10 127 "NetHouseModel" "places" "I") (by decide +kernel)) (fun _ h9 => h9) rfl dX10_works_46 ?_
    refine lv_icmp_ge (tgt := 76) hx hb dX10_works_49 (by decide) (fun c13 => ?_) (fun c14 => ?_)
    · have hw := hw.1 c13
      exact hk _ _ _ _ _ hw hP hD hS (lv_sub hl [0, 2, 3] rfl)
    · have hw := hw.2 c14
      refine lv_aload_n hx hb dX10_works_52 rfl (lv_at hl 0 rfl) ?_
      refine va_get (D := (dC, dI)) (ci := 10) (v := .ref (ad_p0 31)) (C := RX10) (T := TX10) (N := 50) hx hb hts iX10 hown hK hP 0 rfl rfl 31 (by decide) (hts (.fieldLink RX10 78 "NetHouseModel" "come" "[I") (by decide +kernel)) (fun _ h9 => h9) rfl dX10_works_53 ?_
      refine lv_iload hx hb dX10_works_56 (lv_at hl 4 rfl) ?_
      refine lv_iload hx hb dX10_works_58 (lv_at hl 4 rfl) ?_
      refine lv_iload_n hx hb dX10_works_60 rfl (lv_at hl 1 rfl) ?_
      refine lv_icmp_ne (tgt := 68) hx hb dX10_works_61 (by decide) (fun c15 => ?_) (fun c16 => ?_)
      · have hw := hw.1 c15
        refine lv_iconst (v := 0) hx hb dX10_works_68 (by decide) ?_
        refine va_iast hx hb hK hP hD hS 4 0 rfl rfl hw.1 dX10_works_69 (fun H locs hP hD hS => ?_)
        have hw := hw.2
        have hP : va_P (dC, dI) vwCl (wld_X10_works cI cJ cZ h_p0 ad_p0 p0_places p0_steps p0_pastFirst p0_past p0_goings p0_rowSize p0_ways p0_hasField p0_fieldSize p0_faultNow p0_hasTree p0_treeSize p0_weightCount p0_roundCount p0_setCount p0_by p0_closes p0_colour (upd p0_come v4.toNatClampNeg (0 : Int32)) p0_field p0_former p0_leads p0_needs p0_next p0_order p0_puts p0_sort p0_takes) H := hP
        have hD : va_D A (wld_X10_works cI cJ cZ h_p0 ad_p0 p0_places p0_steps p0_pastFirst p0_past p0_goings p0_rowSize p0_ways p0_hasField p0_fieldSize p0_faultNow p0_hasTree p0_treeSize p0_weightCount p0_roundCount p0_setCount p0_by p0_closes p0_colour (upd p0_come v4.toNatClampNeg (0 : Int32)) p0_field p0_former p0_leads p0_needs p0_next p0_order p0_puts p0_sort p0_takes) := hD
        obtain ⟨x17, ex17⟩ : ∃ y : Int32, y = v4 + (1 : Int32) := ⟨_, rfl⟩
        have hw := hw x17 ex17
        refine lv_iinc (v := x17) (lv' := [(4, .int x17), (0, .ref h_p0), (1, .int v1), (2, .int v2), (3, .int v3)]) hx hb dX10_works_70 hl (k := 4) rfl (by rw [ex17]; rfl) (by decide) rfl (fun ls hl => ?_)
        refine lv_goto (tgt := 43) hx hb dX10_works_73 (by decide) ?_
        exact ih _ _ hw _ _ _ hP hD hS (lv_sub hl [1, 2, 3, 4, 0] rfl)
      · have hw := hw.2 c16
        refine lv_iconst (v := 1) hx hb dX10_works_64 (by decide) ?_
        refine lv_goto (tgt := 69) hx hb dX10_works_65 (by decide) ?_
        refine va_iast hx hb hK hP hD hS 4 0 rfl rfl hw.1 dX10_works_69 (fun H locs hP hD hS => ?_)
        have hw := hw.2
        have hP : va_P (dC, dI) vwCl (wld_X10_works cI cJ cZ h_p0 ad_p0 p0_places p0_steps p0_pastFirst p0_past p0_goings p0_rowSize p0_ways p0_hasField p0_fieldSize p0_faultNow p0_hasTree p0_treeSize p0_weightCount p0_roundCount p0_setCount p0_by p0_closes p0_colour (upd p0_come v4.toNatClampNeg (1 : Int32)) p0_field p0_former p0_leads p0_needs p0_next p0_order p0_puts p0_sort p0_takes) H := hP
        have hD : va_D A (wld_X10_works cI cJ cZ h_p0 ad_p0 p0_places p0_steps p0_pastFirst p0_past p0_goings p0_rowSize p0_ways p0_hasField p0_fieldSize p0_faultNow p0_hasTree p0_treeSize p0_weightCount p0_roundCount p0_setCount p0_by p0_closes p0_colour (upd p0_come v4.toNatClampNeg (1 : Int32)) p0_field p0_former p0_leads p0_needs p0_next p0_order p0_puts p0_sort p0_takes) := hD
        obtain ⟨x18, ex18⟩ : ∃ y : Int32, y = v4 + (1 : Int32) := ⟨_, rfl⟩
        have hw := hw x18 ex18
        refine lv_iinc (v := x18) (lv' := [(4, .int x18), (0, .ref h_p0), (1, .int v1), (2, .int v2), (3, .int v3)]) hx hb dX10_works_70 hl (k := 4) rfl (by rw [ex18]; rfl) (by decide) rfl (fun ls hl => ?_)
        refine lv_goto (tgt := 43) hx hb dX10_works_73 (by decide) ?_
        exact ih _ _ hw _ _ _ hP hD hS (lv_sub hl [1, 2, 3, 4, 0] rfl)
set_option maxHeartbeats 4000000 in
set_option maxRecDepth 100000 in
theorem c_X10_works_L96 {p : Program} {l : Launch} {e : Env} {s : State} {m : MethodId} {args : Array Value} {below : List Frame} {meth : Method} {c : Code} {dC : Nat → ClassId} {dI : Nat → Nat → Nat} {A : Nat → Prop} {cI cJ cZ : ClassId} {h_p0 : Nat} {ad_p0 : Nat → Nat} {p0_places : Int32} {p0_steps : Int32} {p0_pastFirst : Int32} {p0_past : Int32} {p0_goings : Int32} {p0_rowSize : Int32} {p0_ways : Int32} {p0_hasField : Int32} {p0_fieldSize : Int32} {p0_faultNow : Int32} {p0_hasTree : Int32} {p0_treeSize : Int32} {p0_weightCount : Int32} {p0_roundCount : Int32} {p0_setCount : Int32} {p0_by : Nat → Int32} {p0_closes : Nat → Int32} {p0_colour : Nat → Int32} {p0_field : Nat → Int32} {p0_former : Nat → Int32} {p0_leads : Nat → Int32} {p0_needs : Nat → Int32} {p0_next : Nat → Int32} {p0_order : Nat → Int32} {p0_puts : Nat → Int32} {p0_sort : Nat → Int32} {p0_takes : Nat → Int32} {v2 : Int32} {z_p0_come : Nat → Int32} {post : Int32 → (Int32) → (Int32) → (Int32) → (Nat → Int32) → (Nat → Int32) → (Nat → Int32) → (Nat → Int32) → (Nat → Int32) → (Nat → Int32) → (Nat → Int32) → Prop} {K : (Int32) → (Nat → Int32) → Prop} (E0 : xEnv p s m args meth c cX10_works (some .int) 6 RX10 wsX10_works (dC, dI) cI cJ cZ A) (hk : ∀ (v5 : Int32) (p0_come : Nat → Int32) (H : Heap) (locs : List Loc) (ls : Array Slot), K v5 p0_come → va_P (dC, dI) vwCl (wld_X10_works cI cJ cZ h_p0 ad_p0 p0_places p0_steps p0_pastFirst p0_past p0_goings p0_rowSize p0_ways p0_hasField p0_fieldSize p0_faultNow p0_hasTree p0_treeSize p0_weightCount p0_roundCount p0_setCount p0_by p0_closes p0_colour p0_come p0_field p0_former p0_leads p0_needs p0_next p0_order p0_puts p0_sort p0_takes) H → va_D A (wld_X10_works cI cJ cZ h_p0 ad_p0 p0_places p0_steps p0_pastFirst p0_past p0_goings p0_rowSize p0_ways p0_hasField p0_fieldSize p0_faultNow p0_hasTree p0_treeSize p0_weightCount p0_roundCount p0_setCount p0_by p0_closes p0_colour p0_come p0_field p0_former p0_leads p0_needs p0_next p0_order p0_puts p0_sort p0_takes) → va_S A s.heap H locs → lv_has ls 6 [(0, .ref h_p0), (2, .int v2)] → W p l e ({ frames := 5, cells := 0, slots := 0, locals := 122 }) s m args below meth c H locs 0 0 (MQ below (q_X10_works dC dI cI cJ cZ h_p0 ad_p0 p0_places p0_steps p0_pastFirst p0_past p0_goings p0_rowSize p0_ways p0_hasField p0_fieldSize p0_faultNow p0_hasTree p0_treeSize p0_weightCount p0_roundCount p0_setCount p0_by p0_closes p0_colour z_p0_come p0_field p0_former p0_leads p0_needs p0_next p0_order p0_puts p0_sort p0_takes post A) args s 0 0 A) (F0 m 129 ls [])) : ∀ (n : Nat) (v5 : Int32) (p0_come : Nat → Int32), w_X10_works_L96 v2 p0_faultNow p0_fieldSize p0_hasField p0_places p0_steps p0_by p0_closes p0_colour p0_field p0_former p0_leads p0_needs p0_next p0_order p0_puts p0_sort p0_takes post K n v5 p0_come → ∀ (H : Heap) (locs : List Loc) (ls : Array Slot), va_P (dC, dI) vwCl (wld_X10_works cI cJ cZ h_p0 ad_p0 p0_places p0_steps p0_pastFirst p0_past p0_goings p0_rowSize p0_ways p0_hasField p0_fieldSize p0_faultNow p0_hasTree p0_treeSize p0_weightCount p0_roundCount p0_setCount p0_by p0_closes p0_colour p0_come p0_field p0_former p0_leads p0_needs p0_next p0_order p0_puts p0_sort p0_takes) H → va_D A (wld_X10_works cI cJ cZ h_p0 ad_p0 p0_places p0_steps p0_pastFirst p0_past p0_goings p0_rowSize p0_ways p0_hasField p0_fieldSize p0_faultNow p0_hasTree p0_treeSize p0_weightCount p0_roundCount p0_setCount p0_by p0_closes p0_colour p0_come p0_field p0_former p0_leads p0_needs p0_next p0_order p0_puts p0_sort p0_takes) → va_S A s.heap H locs → lv_has ls 6 [(0, .ref h_p0), (2, .int v2), (5, .int v5)] → W p l e ({ frames := 5, cells := 0, slots := 0, locals := 122 }) s m args below meth c H locs 0 0 (MQ below (q_X10_works dC dI cI cJ cZ h_p0 ad_p0 p0_places p0_steps p0_pastFirst p0_past p0_goings p0_rowSize p0_ways p0_hasField p0_fieldSize p0_faultNow p0_hasTree p0_treeSize p0_weightCount p0_roundCount p0_setCount p0_by p0_closes p0_colour z_p0_come p0_field p0_former p0_leads p0_needs p0_next p0_order p0_puts p0_sort p0_takes post A) args s 0 0 A) (F0 m 96 ls []) := by
  obtain ⟨hx, hb, hr, hml, hown, hts, hlocks, hK, hA, n1, n2⟩ := id E0
  have iX10 : ∀ w ∈ u_ws RX10 TX10 50, w ∈ wsX10_works := fun w h => List.mem_cons_of_mem _ (List.mem_append_right _ h)
  intro n
  induction n with
  | zero => intro v5 p0_come hw; exact hw.elim
  | succ n ih =>
    intro v5 p0_come hw H locs ls hP hD hS hl
    have hw : w_X10_works_L96b v2 p0_faultNow p0_fieldSize p0_hasField p0_places p0_steps p0_by p0_closes p0_colour p0_field p0_former p0_leads p0_needs p0_next p0_order p0_puts p0_sort p0_takes post K (w_X10_works_L96 v2 p0_faultNow p0_fieldSize p0_hasField p0_places p0_steps p0_by p0_closes p0_colour p0_field p0_former p0_leads p0_needs p0_next p0_order p0_puts p0_sort p0_takes post K n) v5 p0_come := hw
    unfold w_X10_works_L96b at hw
    refine lv_iload hx hb dX10_works_96 (lv_at hl 2 rfl) ?_
    refine lv_aload_n hx hb dX10_works_98 rfl (lv_at hl 0 rfl) ?_
    refine va_get (D := (dC, dI)) (ci := 10) (v := .int p0_places) (C := RX10) (T := TX10) (N := 50) hx hb hts iX10 hown hK hP 0 rfl rfl 0 (by decide) (hts (.fieldLink RX10 127 "NetHouseModel" "places" "I") (by decide +kernel)) (fun _ h9 => h9) rfl dX10_works_99 ?_
    refine lv_icmp_ge (tgt := 129) hx hb dX10_works_102 (by decide) (fun c33 => ?_) (fun c34 => ?_)
    · have hw := hw.1 c33
      exact hk _ _ _ _ _ hw hP hD hS (lv_sub hl [0, 1] rfl)
    · have hw := hw.2 c34
      refine lv_aload_n hx hb dX10_works_105 rfl (lv_at hl 0 rfl) ?_
      refine va_get (D := (dC, dI)) (ci := 10) (v := .ref (ad_p0 31)) (C := RX10) (T := TX10) (N := 50) hx hb hts iX10 hown hK hP 0 rfl rfl 31 (by decide) (hts (.fieldLink RX10 78 "NetHouseModel" "come" "[I") (by decide +kernel)) (fun _ h9 => h9) rfl dX10_works_106 ?_
      refine lv_iload hx hb dX10_works_109 (lv_at hl 2 rfl) ?_
      refine lv_iload hx hb dX10_works_111 (lv_at hl 2 rfl) ?_
      refine lv_iload_n hx hb dX10_works_113 rfl (lv_at hl 1 rfl) ?_
      refine lv_icmp_ne (tgt := 121) hx hb dX10_works_114 (by decide) (fun c35 => ?_) (fun c36 => ?_)
      · have hw := hw.1 c35
        refine lv_iconst (v := 0) hx hb dX10_works_121 (by decide) ?_
        refine va_iast hx hb hK hP hD hS 4 0 rfl rfl hw.1 dX10_works_122 (fun H locs hP hD hS => ?_)
        have hw := hw.2
        have hP : va_P (dC, dI) vwCl (wld_X10_works cI cJ cZ h_p0 ad_p0 p0_places p0_steps p0_pastFirst p0_past p0_goings p0_rowSize p0_ways p0_hasField p0_fieldSize p0_faultNow p0_hasTree p0_treeSize p0_weightCount p0_roundCount p0_setCount p0_by p0_closes p0_colour (upd p0_come v5.toNatClampNeg (0 : Int32)) p0_field p0_former p0_leads p0_needs p0_next p0_order p0_puts p0_sort p0_takes) H := hP
        have hD : va_D A (wld_X10_works cI cJ cZ h_p0 ad_p0 p0_places p0_steps p0_pastFirst p0_past p0_goings p0_rowSize p0_ways p0_hasField p0_fieldSize p0_faultNow p0_hasTree p0_treeSize p0_weightCount p0_roundCount p0_setCount p0_by p0_closes p0_colour (upd p0_come v5.toNatClampNeg (0 : Int32)) p0_field p0_former p0_leads p0_needs p0_next p0_order p0_puts p0_sort p0_takes) := hD
        obtain ⟨x37, ex37⟩ : ∃ y : Int32, y = v5 + (1 : Int32) := ⟨_, rfl⟩
        have hw := hw x37 ex37
        refine lv_iinc (v := x37) (lv' := [(5, .int x37), (0, .ref h_p0), (2, .int v2)]) hx hb dX10_works_123 hl (k := 2) rfl (by rw [ex37]; rfl) (by decide) rfl (fun ls hl => ?_)
        refine lv_goto (tgt := 96) hx hb dX10_works_126 (by decide) ?_
        exact ih _ _ hw _ _ _ hP hD hS (lv_sub hl [1, 2, 0] rfl)
      · have hw := hw.2 c36
        refine lv_iconst (v := 1) hx hb dX10_works_117 (by decide) ?_
        refine lv_goto (tgt := 122) hx hb dX10_works_118 (by decide) ?_
        refine va_iast hx hb hK hP hD hS 4 0 rfl rfl hw.1 dX10_works_122 (fun H locs hP hD hS => ?_)
        have hw := hw.2
        have hP : va_P (dC, dI) vwCl (wld_X10_works cI cJ cZ h_p0 ad_p0 p0_places p0_steps p0_pastFirst p0_past p0_goings p0_rowSize p0_ways p0_hasField p0_fieldSize p0_faultNow p0_hasTree p0_treeSize p0_weightCount p0_roundCount p0_setCount p0_by p0_closes p0_colour (upd p0_come v5.toNatClampNeg (1 : Int32)) p0_field p0_former p0_leads p0_needs p0_next p0_order p0_puts p0_sort p0_takes) H := hP
        have hD : va_D A (wld_X10_works cI cJ cZ h_p0 ad_p0 p0_places p0_steps p0_pastFirst p0_past p0_goings p0_rowSize p0_ways p0_hasField p0_fieldSize p0_faultNow p0_hasTree p0_treeSize p0_weightCount p0_roundCount p0_setCount p0_by p0_closes p0_colour (upd p0_come v5.toNatClampNeg (1 : Int32)) p0_field p0_former p0_leads p0_needs p0_next p0_order p0_puts p0_sort p0_takes) := hD
        obtain ⟨x38, ex38⟩ : ∃ y : Int32, y = v5 + (1 : Int32) := ⟨_, rfl⟩
        have hw := hw x38 ex38
        refine lv_iinc (v := x38) (lv' := [(5, .int x38), (0, .ref h_p0), (2, .int v2)]) hx hb dX10_works_123 hl (k := 2) rfl (by rw [ex38]; rfl) (by decide) rfl (fun ls hl => ?_)
        refine lv_goto (tgt := 96) hx hb dX10_works_126 (by decide) ?_
        exact ih _ _ hw _ _ _ hP hD hS (lv_sub hl [1, 2, 0] rfl)
set_option maxHeartbeats 4000000 in
set_option maxRecDepth 100000 in
theorem c_X10_works {l : Launch} {dC : Nat → ClassId} {dI : Nat → Nat → Nat} {sz : Nat} {cI cJ cZ : ClassId} {h_p0 : Nat} {ad_p0 : Nat → Nat} {p0_places : Int32} {p0_steps : Int32} {p0_pastFirst : Int32} {p0_past : Int32} {p0_goings : Int32} {p0_rowSize : Int32} {p0_ways : Int32} {p0_hasField : Int32} {p0_fieldSize : Int32} {p0_faultNow : Int32} {p0_hasTree : Int32} {p0_treeSize : Int32} {p0_weightCount : Int32} {p0_roundCount : Int32} {p0_setCount : Int32} {p0_by : Nat → Int32} {p0_closes : Nat → Int32} {p0_colour : Nat → Int32} {p0_come : Nat → Int32} {p0_field : Nat → Int32} {p0_former : Nat → Int32} {p0_leads : Nat → Int32} {p0_needs : Nat → Int32} {p0_next : Nat → Int32} {p0_order : Nat → Int32} {p0_puts : Nat → Int32} {p0_sort : Nat → Int32} {p0_takes : Nat → Int32} {a1 : Int32} {a2 : Int32} {a3 : Int32} {post : Int32 → (Int32) → (Int32) → (Int32) → (Nat → Int32) → (Nat → Int32) → (Nat → Int32) → (Nat → Int32) → (Nat → Int32) → (Nat → Int32) → (Nat → Int32) → Prop} (hw : w_X10_works p0_faultNow p0_fieldSize p0_hasField p0_places p0_steps p0_by p0_closes p0_colour p0_come p0_field p0_former p0_leads p0_needs p0_next p0_order p0_puts p0_sort p0_takes a1 a2 a3 post) : Met l yX10_works wsX10_works ({ frames := 5, cells := 0, slots := 0, locals := 122 }) (va_Pc [.ref h_p0, .int a1, .int a2, .int a3] (xPre (dC, dI) cI cJ cZ (wld_X10_works cI cJ cZ h_p0 ad_p0 p0_places p0_steps p0_pastFirst p0_past p0_goings p0_rowSize p0_ways p0_hasField p0_fieldSize p0_faultNow p0_hasTree p0_treeSize p0_weightCount p0_roundCount p0_setCount p0_by p0_closes p0_colour p0_come p0_field p0_former p0_leads p0_needs p0_next p0_order p0_puts p0_sort p0_takes) sz)) (q_X10_works dC dI cI cJ cZ h_p0 ad_p0 p0_places p0_steps p0_pastFirst p0_past p0_goings p0_rowSize p0_ways p0_hasField p0_fieldSize p0_faultNow p0_hasTree p0_treeSize p0_weightCount p0_roundCount p0_setCount p0_by p0_closes p0_colour p0_come p0_field p0_former p0_leads p0_needs p0_next p0_order p0_puts p0_sort p0_takes post (va_A (wld_X10_works cI cJ cZ h_p0 ad_p0 p0_places p0_steps p0_pastFirst p0_past p0_goings p0_rowSize p0_ways p0_hasField p0_fieldSize p0_faultNow p0_hasTree p0_treeSize p0_weightCount p0_roundCount p0_setCount p0_by p0_closes p0_colour p0_come p0_field p0_former p0_leads p0_needs p0_next p0_order p0_puts p0_sort p0_takes) sz)) 0 0 (va_A (wld_X10_works cI cJ cZ h_p0 ad_p0 p0_places p0_steps p0_pastFirst p0_past p0_goings p0_rowSize p0_ways p0_hasField p0_fieldSize p0_faultNow p0_hasTree p0_treeSize p0_weightCount p0_roundCount p0_setCount p0_by p0_closes p0_colour p0_come p0_field p0_former p0_leads p0_needs p0_next p0_order p0_puts p0_sort p0_takes) sz) := by
  refine x_met (cc := cX10_works) (maxL := 6) (ret := (some .int)) (own := RX10) (Qc := fun A => (q_X10_works dC dI cI cJ cZ h_p0 ad_p0 p0_places p0_steps p0_pastFirst p0_past p0_goings p0_rowSize p0_ways p0_hasField p0_fieldSize p0_faultNow p0_hasTree p0_treeSize p0_weightCount p0_roundCount p0_setCount p0_by p0_closes p0_colour p0_come p0_field p0_former p0_leads p0_needs p0_next p0_order p0_puts p0_sort p0_takes post A)) (by decide) rfl rfl (Nat.le_of_ble_eq_true rfl) ?_
  intro p e s m args below meth c A ls E0 hP hD hS hl
  obtain ⟨hx, hb, hr, hml, hown, hts, hlocks, hK, hA, n1, n2⟩ := id E0
  have iX10 : ∀ w ∈ u_ws RX10 TX10 50, w ∈ wsX10_works := fun w h => List.mem_cons_of_mem _ (List.mem_append_right _ h)
  have hS0 := hS
  have hl : lv_has ls 6 [(0, .ref h_p0), (1, .int a1), (2, .int a2), (3, .int a3)] := hl
  unfold w_X10_works at hw
  obtain ⟨H, hH⟩ : ∃ H, H = s.heap := ⟨_, rfl⟩
  have hS : va_S A s.heap H [] := by rw [hH]; exact hS
  have hP : va_P (dC, dI) vwCl (wld_X10_works cI cJ cZ h_p0 ad_p0 p0_places p0_steps p0_pastFirst p0_past p0_goings p0_rowSize p0_ways p0_hasField p0_fieldSize p0_faultNow p0_hasTree p0_treeSize p0_weightCount p0_roundCount p0_setCount p0_by p0_closes p0_colour p0_come p0_field p0_former p0_leads p0_needs p0_next p0_order p0_puts p0_sort p0_takes) H := by rw [hH]; exact hP
  suffices hG : W p l e ({ frames := 5, cells := 0, slots := 0, locals := 122 }) s m args below meth c H [] 0 0 (MQ below (q_X10_works dC dI cI cJ cZ h_p0 ad_p0 p0_places p0_steps p0_pastFirst p0_past p0_goings p0_rowSize p0_ways p0_hasField p0_fieldSize p0_faultNow p0_hasTree p0_treeSize p0_weightCount p0_roundCount p0_setCount p0_by p0_closes p0_colour p0_come p0_field p0_former p0_leads p0_needs p0_next p0_order p0_puts p0_sort p0_takes post A) args s 0 0 A) (F0 m 0 ls []) by rw [hH] at hG; exact hG
  clear hH
  refine lv_aload_n hx hb dX10_works_0 rfl (lv_at hl 0 rfl) ?_
  refine lv_iload_n hx hb dX10_works_1 rfl (lv_at hl 1 rfl) ?_
  obtain ⟨hPc, hDc⟩ := x_sub (wc := (wld_X10_isPlace cI cJ cZ h_p0 ad_p0 p0_places p0_steps p0_pastFirst p0_past p0_goings p0_rowSize p0_ways p0_hasField p0_fieldSize p0_faultNow p0_hasTree p0_treeSize p0_weightCount p0_roundCount p0_setCount)) hP hD [0] (n := 14) rfl rfl (by decide +kernel)
  refine x_calli (ws' := fun (u : Unit) => (wld_X10_works cI cJ cZ h_p0 ad_p0 p0_places p0_steps p0_pastFirst p0_past p0_goings p0_rowSize p0_ways p0_hasField p0_fieldSize p0_faultNow p0_hasTree p0_treeSize p0_weightCount p0_roundCount p0_setCount p0_by p0_closes p0_colour p0_come p0_field p0_former p0_leads p0_needs p0_next p0_order p0_puts p0_sort p0_takes)) hP hD hS hA [0] [1, 2, 3, 4, 5, 6, 7, 8, 9, 10, 11, 12, 13] [13, 0, 1, 2, 3, 4, 5, 6, 7, 8, 9, 10, 11, 12] (n := 14) (k := 1) rfl (fun _ => rfl) rfl (by decide +kernel) (fun _ => rfl) (va_runV (As := [.int a1]) (rest := []) ⟨hx, hb, hml, hown, hts⟩ (c_X10_isPlace (l := l) (dC := dC) (dI := dI) (cI := cI) (cJ := cJ) (cZ := cZ) (sz := H.size) (h_p0 := h_p0) (ad_p0 := ad_p0) (p0_places := p0_places) (p0_steps := p0_steps) (p0_pastFirst := p0_pastFirst) (p0_past := p0_past) (p0_goings := p0_goings) (p0_rowSize := p0_rowSize) (p0_ways := p0_ways) (p0_hasField := p0_hasField) (p0_fieldSize := p0_fieldSize) (p0_faultNow := p0_faultNow) (p0_hasTree := p0_hasTree) (p0_treeSize := p0_treeSize) (p0_weightCount := p0_weightCount) (p0_roundCount := p0_roundCount) (p0_setCount := p0_setCount) hw) (cwV 1 hts gX10_works_X10_isPlace rfl rfl rfl (by decide +kernel) ⟨Nat.le_of_ble_eq_true rfl, Nat.le_of_ble_eq_true rfl⟩) ⟨xPre_blind, va_recv hK hP (ci := 10) (q0 := 0) rfl rfl, xPre_at hK hPc hDc n1 n2⟩ rfl rfl hl.1 rfl (lv_room (Nat.le_of_ble_eq_true rfl)) dX10_works_2 ⟨Nat.zero_le _, Nat.zero_le _⟩) (fun r1 u H locs hw hP hD hS => ?_)
  try dsimp only at hw
  have hP : va_P (dC, dI) vwCl (wld_X10_works cI cJ cZ h_p0 ad_p0 p0_places p0_steps p0_pastFirst p0_past p0_goings p0_rowSize p0_ways p0_hasField p0_fieldSize p0_faultNow p0_hasTree p0_treeSize p0_weightCount p0_roundCount p0_setCount p0_by p0_closes p0_colour p0_come p0_field p0_former p0_leads p0_needs p0_next p0_order p0_puts p0_sort p0_takes) H := hP
  have hD : va_D A (wld_X10_works cI cJ cZ h_p0 ad_p0 p0_places p0_steps p0_pastFirst p0_past p0_goings p0_rowSize p0_ways p0_hasField p0_fieldSize p0_faultNow p0_hasTree p0_treeSize p0_weightCount p0_roundCount p0_setCount p0_by p0_closes p0_colour p0_come p0_field p0_former p0_leads p0_needs p0_next p0_order p0_puts p0_sort p0_takes) := hD
  refine lv_if_eq (tgt := 27) hx hb dX10_works_5 (by decide) (fun c2 => ?_) (fun c3 => ?_)
  · have hw := hw.1 c2
    refine lv_ldc (v := -2000000001) hx hb hown (hts (.constant RX10 159 (-2000000001)) (by decide +kernel)) dX10_works_27 ?_
    exact x_iret (w1 := fun (u : (Int32) × (Int32) × (Int32) × (Nat → Int32) × (Nat → Int32) × (Nat → Int32) × (Nat → Int32) × (Nat → Int32) × (Nat → Int32) × (Nat → Int32)) => (wld_X10_works cI cJ cZ h_p0 ad_p0 p0_places p0_steps p0_pastFirst p0_past p0_goings p0_rowSize p0_ways (u.2.2.1) (u.2.1) (u.1) p0_hasTree p0_treeSize p0_weightCount p0_roundCount p0_setCount (u.2.2.2.1) p0_closes p0_colour (u.2.2.2.2.1) (u.2.2.2.2.2.1) (u.2.2.2.2.2.2.1) (u.2.2.2.2.2.2.2.1) p0_needs (u.2.2.2.2.2.2.2.2.1) (u.2.2.2.2.2.2.2.2.2) p0_puts p0_sort p0_takes)) hx hb hr hlocks (p0_faultNow, p0_fieldSize, p0_hasField, p0_by, p0_come, p0_field, p0_former, p0_leads, p0_next, p0_order) hw hP hD hS dX10_works_29
  · have hw := hw.2 c3
    refine lv_aload_n hx hb dX10_works_8 rfl (lv_at hl 0 rfl) ?_
    refine lv_iload_n hx hb dX10_works_9 rfl (lv_at hl 2 rfl) ?_
    obtain ⟨hPc, hDc⟩ := x_sub (wc := (wld_X10_isPlace cI cJ cZ h_p0 ad_p0 p0_places p0_steps p0_pastFirst p0_past p0_goings p0_rowSize p0_ways p0_hasField p0_fieldSize p0_faultNow p0_hasTree p0_treeSize p0_weightCount p0_roundCount p0_setCount)) hP hD [0] (n := 14) rfl rfl (by decide +kernel)
    refine x_calli (ws' := fun (u : Unit) => (wld_X10_works cI cJ cZ h_p0 ad_p0 p0_places p0_steps p0_pastFirst p0_past p0_goings p0_rowSize p0_ways p0_hasField p0_fieldSize p0_faultNow p0_hasTree p0_treeSize p0_weightCount p0_roundCount p0_setCount p0_by p0_closes p0_colour p0_come p0_field p0_former p0_leads p0_needs p0_next p0_order p0_puts p0_sort p0_takes)) hP hD hS hA [0] [1, 2, 3, 4, 5, 6, 7, 8, 9, 10, 11, 12, 13] [13, 0, 1, 2, 3, 4, 5, 6, 7, 8, 9, 10, 11, 12] (n := 14) (k := 1) rfl (fun _ => rfl) rfl (by decide +kernel) (fun _ => rfl) (va_runV (As := [.int a2]) (rest := []) ⟨hx, hb, hml, hown, hts⟩ (c_X10_isPlace (l := l) (dC := dC) (dI := dI) (cI := cI) (cJ := cJ) (cZ := cZ) (sz := H.size) (h_p0 := h_p0) (ad_p0 := ad_p0) (p0_places := p0_places) (p0_steps := p0_steps) (p0_pastFirst := p0_pastFirst) (p0_past := p0_past) (p0_goings := p0_goings) (p0_rowSize := p0_rowSize) (p0_ways := p0_ways) (p0_hasField := p0_hasField) (p0_fieldSize := p0_fieldSize) (p0_faultNow := p0_faultNow) (p0_hasTree := p0_hasTree) (p0_treeSize := p0_treeSize) (p0_weightCount := p0_weightCount) (p0_roundCount := p0_roundCount) (p0_setCount := p0_setCount) hw) (cwV 1 hts gX10_works_X10_isPlace rfl rfl rfl (by decide +kernel) ⟨Nat.le_of_ble_eq_true rfl, Nat.le_of_ble_eq_true rfl⟩) ⟨xPre_blind, va_recv hK hP (ci := 10) (q0 := 0) rfl rfl, xPre_at hK hPc hDc n1 n2⟩ rfl rfl hl.1 rfl (lv_room (Nat.le_of_ble_eq_true rfl)) dX10_works_10 ⟨Nat.zero_le _, Nat.zero_le _⟩) (fun r4 u H locs hw hP hD hS => ?_)
    try dsimp only at hw
    have hP : va_P (dC, dI) vwCl (wld_X10_works cI cJ cZ h_p0 ad_p0 p0_places p0_steps p0_pastFirst p0_past p0_goings p0_rowSize p0_ways p0_hasField p0_fieldSize p0_faultNow p0_hasTree p0_treeSize p0_weightCount p0_roundCount p0_setCount p0_by p0_closes p0_colour p0_come p0_field p0_former p0_leads p0_needs p0_next p0_order p0_puts p0_sort p0_takes) H := hP
    have hD : va_D A (wld_X10_works cI cJ cZ h_p0 ad_p0 p0_places p0_steps p0_pastFirst p0_past p0_goings p0_rowSize p0_ways p0_hasField p0_fieldSize p0_faultNow p0_hasTree p0_treeSize p0_weightCount p0_roundCount p0_setCount p0_by p0_closes p0_colour p0_come p0_field p0_former p0_leads p0_needs p0_next p0_order p0_puts p0_sort p0_takes) := hD
    refine lv_if_eq (tgt := 27) hx hb dX10_works_13 (by decide) (fun c5 => ?_) (fun c6 => ?_)
    · have hw := hw.1 c5
      refine lv_ldc (v := -2000000001) hx hb hown (hts (.constant RX10 159 (-2000000001)) (by decide +kernel)) dX10_works_27 ?_
      exact x_iret (w1 := fun (u : (Int32) × (Int32) × (Int32) × (Nat → Int32) × (Nat → Int32) × (Nat → Int32) × (Nat → Int32) × (Nat → Int32) × (Nat → Int32) × (Nat → Int32)) => (wld_X10_works cI cJ cZ h_p0 ad_p0 p0_places p0_steps p0_pastFirst p0_past p0_goings p0_rowSize p0_ways (u.2.2.1) (u.2.1) (u.1) p0_hasTree p0_treeSize p0_weightCount p0_roundCount p0_setCount (u.2.2.2.1) p0_closes p0_colour (u.2.2.2.2.1) (u.2.2.2.2.2.1) (u.2.2.2.2.2.2.1) (u.2.2.2.2.2.2.2.1) p0_needs (u.2.2.2.2.2.2.2.2.1) (u.2.2.2.2.2.2.2.2.2) p0_puts p0_sort p0_takes)) hx hb hr hlocks (p0_faultNow, p0_fieldSize, p0_hasField, p0_by, p0_come, p0_field, p0_former, p0_leads, p0_next, p0_order) hw hP hD hS dX10_works_29
    · have hw := hw.2 c6
      refine lv_iload_n hx hb dX10_works_16 rfl (lv_at hl 3 rfl) ?_
      refine lv_iconst (v := 1) hx hb dX10_works_17 (by decide) ?_
      refine lv_sipush (v := 8000) hx hb dX10_works_18 (by decide) ?_
      obtain ⟨hPc, hDc⟩ := x_sub (wc := (wld_X10_isIn cI cJ cZ )) hP hD [] (n := 14) rfl rfl (by decide +kernel)
      refine x_calli (ws' := fun (u : Unit) => (wld_X10_works cI cJ cZ h_p0 ad_p0 p0_places p0_steps p0_pastFirst p0_past p0_goings p0_rowSize p0_ways p0_hasField p0_fieldSize p0_faultNow p0_hasTree p0_treeSize p0_weightCount p0_roundCount p0_setCount p0_by p0_closes p0_colour p0_come p0_field p0_former p0_leads p0_needs p0_next p0_order p0_puts p0_sort p0_takes)) hP hD hS hA [] [0, 1, 2, 3, 4, 5, 6, 7, 8, 9, 10, 11, 12, 13] [0, 1, 2, 3, 4, 5, 6, 7, 8, 9, 10, 11, 12, 13] (n := 14) (k := 0) rfl (fun _ => rfl) rfl (by decide +kernel) (fun _ => rfl) (va_runS (As := [.int a3, .int (1 : Int32), .int (8000 : Int32)]) (rest := []) ⟨hx, hb, hml, hown, hts⟩ (c_X10_isIn (l := l) (dC := dC) (dI := dI) (cI := cI) (cJ := cJ) (cZ := cZ) (sz := H.size) hw) (va_cwS 3 hts gX10_works_X10_isIn rfl rfl rfl (by decide +kernel) ⟨Nat.le_of_ble_eq_true rfl, Nat.le_of_ble_eq_true rfl⟩) ⟨xPre_blind, xPre_at hK hPc hDc n1 n2⟩ rfl rfl hl.1 rfl (lv_room (Nat.le_of_ble_eq_true rfl)) dX10_works_21 ⟨Nat.zero_le _, Nat.zero_le _⟩) (fun r7 u H locs hw hP hD hS => ?_)
      try dsimp only at hw
      have hP : va_P (dC, dI) vwCl (wld_X10_works cI cJ cZ h_p0 ad_p0 p0_places p0_steps p0_pastFirst p0_past p0_goings p0_rowSize p0_ways p0_hasField p0_fieldSize p0_faultNow p0_hasTree p0_treeSize p0_weightCount p0_roundCount p0_setCount p0_by p0_closes p0_colour p0_come p0_field p0_former p0_leads p0_needs p0_next p0_order p0_puts p0_sort p0_takes) H := hP
      have hD : va_D A (wld_X10_works cI cJ cZ h_p0 ad_p0 p0_places p0_steps p0_pastFirst p0_past p0_goings p0_rowSize p0_ways p0_hasField p0_fieldSize p0_faultNow p0_hasTree p0_treeSize p0_weightCount p0_roundCount p0_setCount p0_by p0_closes p0_colour p0_come p0_field p0_former p0_leads p0_needs p0_next p0_order p0_puts p0_sort p0_takes) := hD
      refine lv_if_ne (tgt := 30) hx hb dX10_works_24 (by decide) (fun c8 => ?_) (fun c9 => ?_)
      · have hw := hw.1 c8
        refine lv_aload_n hx hb dX10_works_30 rfl (lv_at hl 0 rfl) ?_
        obtain ⟨hPc, hDc⟩ := x_sub (wc := (wld_X10_hasColour cI cJ cZ h_p0 ad_p0 p0_places p0_steps p0_pastFirst p0_past p0_goings p0_rowSize p0_ways p0_hasField p0_fieldSize p0_faultNow p0_hasTree p0_treeSize p0_weightCount p0_roundCount p0_setCount p0_colour)) hP hD [0, 3] (n := 14) rfl rfl (by decide +kernel)
        refine x_calli (ws' := fun (u : Unit) => (wld_X10_works cI cJ cZ h_p0 ad_p0 p0_places p0_steps p0_pastFirst p0_past p0_goings p0_rowSize p0_ways p0_hasField p0_fieldSize p0_faultNow p0_hasTree p0_treeSize p0_weightCount p0_roundCount p0_setCount p0_by p0_closes p0_colour p0_come p0_field p0_former p0_leads p0_needs p0_next p0_order p0_puts p0_sort p0_takes)) hP hD hS hA [0, 3] [1, 2, 4, 5, 6, 7, 8, 9, 10, 11, 12, 13] [12, 0, 1, 13, 2, 3, 4, 5, 6, 7, 8, 9, 10, 11] (n := 14) (k := 2) rfl (fun _ => rfl) rfl (by decide +kernel) (fun _ => rfl) (va_runV (As := []) (rest := []) ⟨hx, hb, hml, hown, hts⟩ (c_X10_hasColour (l := l) (dC := dC) (dI := dI) (cI := cI) (cJ := cJ) (cZ := cZ) (sz := H.size) (h_p0 := h_p0) (ad_p0 := ad_p0) (p0_places := p0_places) (p0_steps := p0_steps) (p0_pastFirst := p0_pastFirst) (p0_past := p0_past) (p0_goings := p0_goings) (p0_rowSize := p0_rowSize) (p0_ways := p0_ways) (p0_hasField := p0_hasField) (p0_fieldSize := p0_fieldSize) (p0_faultNow := p0_faultNow) (p0_hasTree := p0_hasTree) (p0_treeSize := p0_treeSize) (p0_weightCount := p0_weightCount) (p0_roundCount := p0_roundCount) (p0_setCount := p0_setCount) (p0_colour := p0_colour) hw) (cwV 0 hts gX10_works_X10_hasColour rfl rfl rfl (by decide +kernel) ⟨Nat.le_of_ble_eq_true rfl, Nat.le_of_ble_eq_true rfl⟩) ⟨xPre_blind, va_recv hK hP (ci := 10) (q0 := 0) rfl rfl, xPre_at hK hPc hDc n1 n2⟩ rfl rfl hl.1 rfl (lv_room (Nat.le_of_ble_eq_true rfl)) dX10_works_31 ⟨Nat.zero_le _, Nat.zero_le _⟩) (fun r10 u H locs hw hP hD hS => ?_)
        try dsimp only at hw
        have hP : va_P (dC, dI) vwCl (wld_X10_works cI cJ cZ h_p0 ad_p0 p0_places p0_steps p0_pastFirst p0_past p0_goings p0_rowSize p0_ways p0_hasField p0_fieldSize p0_faultNow p0_hasTree p0_treeSize p0_weightCount p0_roundCount p0_setCount p0_by p0_closes p0_colour p0_come p0_field p0_former p0_leads p0_needs p0_next p0_order p0_puts p0_sort p0_takes) H := hP
        have hD : va_D A (wld_X10_works cI cJ cZ h_p0 ad_p0 p0_places p0_steps p0_pastFirst p0_past p0_goings p0_rowSize p0_ways p0_hasField p0_fieldSize p0_faultNow p0_hasTree p0_treeSize p0_weightCount p0_roundCount p0_setCount p0_by p0_closes p0_colour p0_come p0_field p0_former p0_leads p0_needs p0_next p0_order p0_puts p0_sort p0_takes) := hD
        refine lv_if_eq (tgt := 40) hx hb dX10_works_34 (by decide) (fun c11 => ?_) (fun c12 => ?_)
        · have hw := hw.1 c11
          refine lv_iconst (v := 0) hx hb dX10_works_40 (by decide) ?_
          refine lv_istore (lv' := [(4, .int (0 : Int32)), (0, .ref h_p0), (1, .int a1), (2, .int a2), (3, .int a3)]) hx hb dX10_works_41 hl (by decide) rfl (fun ls hl => ?_)
          obtain ⟨n19, hw⟩ := hw
          refine c_X10_works_L43 (l := l) (z_p0_come := p0_come) E0 ?_ n19 _ _ hw _ _ _ hP hD hS (lv_sub hl [1, 2, 3, 4, 0] rfl)
          · intro v20 s21 H locs ls hw hP hD hS hl
            have hP : va_P (dC, dI) vwCl (wld_X10_works cI cJ cZ h_p0 ad_p0 p0_places p0_steps p0_pastFirst p0_past p0_goings p0_rowSize p0_ways p0_hasField p0_fieldSize p0_faultNow p0_hasTree p0_treeSize p0_weightCount p0_roundCount p0_setCount p0_by p0_closes p0_colour s21 p0_field p0_former p0_leads p0_needs p0_next p0_order p0_puts p0_sort p0_takes) H := hP
            have hD : va_D A (wld_X10_works cI cJ cZ h_p0 ad_p0 p0_places p0_steps p0_pastFirst p0_past p0_goings p0_rowSize p0_ways p0_hasField p0_fieldSize p0_faultNow p0_hasTree p0_treeSize p0_weightCount p0_roundCount p0_setCount p0_by p0_closes p0_colour s21 p0_field p0_former p0_leads p0_needs p0_next p0_order p0_puts p0_sort p0_takes) := hD
            refine lv_aload_n hx hb dX10_works_76 rfl (lv_at hl 0 rfl) ?_
            refine lv_iload_n hx hb dX10_works_77 rfl (lv_at hl 2 rfl) ?_
            obtain ⟨hPc, hDc⟩ := x_sub (wc := (wld_X10_makeField cI cJ cZ h_p0 ad_p0 p0_places p0_steps p0_pastFirst p0_past p0_goings p0_rowSize p0_ways p0_hasField p0_fieldSize p0_faultNow p0_hasTree p0_treeSize p0_weightCount p0_roundCount p0_setCount p0_by p0_closes s21 p0_field p0_former p0_needs p0_next p0_order p0_puts p0_sort p0_takes)) hP hD [0, 1, 2, 4, 5, 6, 8, 9, 10, 11, 12, 13] (n := 14) rfl rfl (by decide +kernel)
            refine x_calli (ws' := fun (u : (Int32) × (Int32) × (Nat → Int32) × (Nat → Int32) × (Nat → Int32) × (Nat → Int32) × (Nat → Int32) × (Nat → Int32)) => (wld_X10_works cI cJ cZ h_p0 ad_p0 p0_places p0_steps p0_pastFirst p0_past p0_goings p0_rowSize p0_ways (u.2.1) (u.1) p0_faultNow p0_hasTree p0_treeSize p0_weightCount p0_roundCount p0_setCount (u.2.2.1) p0_closes p0_colour (u.2.2.2.1) (u.2.2.2.2.1) (u.2.2.2.2.2.1) p0_leads p0_needs (u.2.2.2.2.2.2.1) (u.2.2.2.2.2.2.2) p0_puts p0_sort p0_takes)) hP hD hS hA [0, 1, 2, 4, 5, 6, 8, 9, 10, 11, 12, 13] [3, 7] [2, 3, 4, 0, 5, 6, 7, 1, 8, 9, 10, 11, 12, 13] (n := 14) (k := 12) rfl (fun _ => rfl) rfl (by decide +kernel) (fun _ => rfl) (va_runV (As := [.int a3]) (rest := []) ⟨hx, hb, hml, hown, hts⟩ (c_X10_makeField (l := l) (dC := dC) (dI := dI) (cI := cI) (cJ := cJ) (cZ := cZ) (sz := H.size) (h_p0 := h_p0) (ad_p0 := ad_p0) (p0_places := p0_places) (p0_steps := p0_steps) (p0_pastFirst := p0_pastFirst) (p0_past := p0_past) (p0_goings := p0_goings) (p0_rowSize := p0_rowSize) (p0_ways := p0_ways) (p0_hasField := p0_hasField) (p0_fieldSize := p0_fieldSize) (p0_faultNow := p0_faultNow) (p0_hasTree := p0_hasTree) (p0_treeSize := p0_treeSize) (p0_weightCount := p0_weightCount) (p0_roundCount := p0_roundCount) (p0_setCount := p0_setCount) (p0_by := p0_by) (p0_closes := p0_closes) (p0_come := s21) (p0_field := p0_field) (p0_former := p0_former) (p0_needs := p0_needs) (p0_next := p0_next) (p0_order := p0_order) (p0_puts := p0_puts) (p0_sort := p0_sort) (p0_takes := p0_takes) hw) (cwV 1 hts gX10_works_X10_makeField rfl rfl rfl (by decide +kernel) ⟨Nat.le_of_ble_eq_true rfl, Nat.le_of_ble_eq_true rfl⟩) ⟨xPre_blind, va_recv hK hP (ci := 10) (q0 := 0) rfl rfl, xPre_at hK hPc hDc n1 n2⟩ rfl rfl hl.1 rfl (lv_room (Nat.le_of_ble_eq_true rfl)) dX10_works_78 ⟨Nat.zero_le _, Nat.zero_le _⟩) (fun r22 u H locs hw hP hD hS => ?_)
            obtain ⟨y23, y24, y25, y26, y27, y28, y29, y30⟩ := u
            try dsimp only at hw
            have hP : va_P (dC, dI) vwCl (wld_X10_works cI cJ cZ h_p0 ad_p0 p0_places p0_steps p0_pastFirst p0_past p0_goings p0_rowSize p0_ways y24 y23 p0_faultNow p0_hasTree p0_treeSize p0_weightCount p0_roundCount p0_setCount y25 p0_closes p0_colour y26 y27 y28 p0_leads p0_needs y29 y30 p0_puts p0_sort p0_takes) H := hP
            have hD : va_D A (wld_X10_works cI cJ cZ h_p0 ad_p0 p0_places p0_steps p0_pastFirst p0_past p0_goings p0_rowSize p0_ways y24 y23 p0_faultNow p0_hasTree p0_treeSize p0_weightCount p0_roundCount p0_setCount y25 p0_closes p0_colour y26 y27 y28 p0_leads p0_needs y29 y30 p0_puts p0_sort p0_takes) := hD
            refine lv_istore (lv' := [(4, .int r22), (0, .ref h_p0), (2, .int a2), (3, .int a3)]) hx hb dX10_works_81 hl (by decide) rfl (fun ls hl => ?_)
            refine lv_iload hx hb dX10_works_83 (lv_at hl 0 rfl) ?_
            refine lv_ldc (v := -2000000004) hx hb hown (hts (.constant RX10 251 (-2000000004)) (by decide +kernel)) dX10_works_85 ?_
            refine lv_icmp_ne (tgt := 93) hx hb dX10_works_87 (by decide) (fun c31 => ?_) (fun c32 => ?_)
            · have hw := hw.1 c31
              refine lv_iconst (v := 0) hx hb dX10_works_93 (by decide) ?_
              refine lv_istore (lv' := [(5, .int (0 : Int32)), (4, .int r22), (0, .ref h_p0), (2, .int a2), (3, .int a3)]) hx hb dX10_works_94 hl (by decide) rfl (fun ls hl => ?_)
              obtain ⟨n39, hw⟩ := hw
              refine c_X10_works_L96 (l := l) (z_p0_come := y26) E0 ?_ n39 _ _ hw _ _ _ hP hD hS (lv_sub hl [2, 3, 0] rfl)
              · intro v40 s41 H locs ls hw hP hD hS hl
                have hP : va_P (dC, dI) vwCl (wld_X10_works cI cJ cZ h_p0 ad_p0 p0_places p0_steps p0_pastFirst p0_past p0_goings p0_rowSize p0_ways y24 y23 p0_faultNow p0_hasTree p0_treeSize p0_weightCount p0_roundCount p0_setCount y25 p0_closes p0_colour s41 y27 y28 p0_leads p0_needs y29 y30 p0_puts p0_sort p0_takes) H := hP
                have hD : va_D A (wld_X10_works cI cJ cZ h_p0 ad_p0 p0_places p0_steps p0_pastFirst p0_past p0_goings p0_rowSize p0_ways y24 y23 p0_faultNow p0_hasTree p0_treeSize p0_weightCount p0_roundCount p0_setCount y25 p0_closes p0_colour s41 y27 y28 p0_leads p0_needs y29 y30 p0_puts p0_sort p0_takes) := hD
                refine lv_aload_n hx hb dX10_works_129 rfl (lv_at hl 0 rfl) ?_
                obtain ⟨hPc, hDc⟩ := x_sub (wc := (wld_X10_numberOf cI cJ cZ h_p0 ad_p0 p0_places p0_steps p0_pastFirst p0_past p0_goings p0_rowSize p0_ways y24 y23 p0_faultNow p0_hasTree p0_treeSize p0_weightCount p0_roundCount p0_setCount s41 y27 y30)) hP hD [0, 4, 5, 10] (n := 14) rfl rfl (by decide +kernel)
                refine x_calli (ws' := fun (u : Unit) => (wld_X10_works cI cJ cZ h_p0 ad_p0 p0_places p0_steps p0_pastFirst p0_past p0_goings p0_rowSize p0_ways y24 y23 p0_faultNow p0_hasTree p0_treeSize p0_weightCount p0_roundCount p0_setCount y25 p0_closes p0_colour s41 y27 y28 p0_leads p0_needs y29 y30 p0_puts p0_sort p0_takes)) hP hD hS hA [0, 4, 5, 10] [1, 2, 3, 6, 7, 8, 9, 11, 12, 13] [10, 0, 1, 2, 11, 12, 3, 4, 5, 6, 13, 7, 8, 9] (n := 14) (k := 4) rfl (fun _ => rfl) rfl (by decide +kernel) (fun _ => rfl) (va_runV (As := []) (rest := []) ⟨hx, hb, hml, hown, hts⟩ (c_X10_numberOf (l := l) (dC := dC) (dI := dI) (cI := cI) (cJ := cJ) (cZ := cZ) (sz := H.size) (h_p0 := h_p0) (ad_p0 := ad_p0) (p0_places := p0_places) (p0_steps := p0_steps) (p0_pastFirst := p0_pastFirst) (p0_past := p0_past) (p0_goings := p0_goings) (p0_rowSize := p0_rowSize) (p0_ways := p0_ways) (p0_hasField := y24) (p0_fieldSize := y23) (p0_faultNow := p0_faultNow) (p0_hasTree := p0_hasTree) (p0_treeSize := p0_treeSize) (p0_weightCount := p0_weightCount) (p0_roundCount := p0_roundCount) (p0_setCount := p0_setCount) (p0_come := s41) (p0_field := y27) (p0_order := y30) hw) (cwV 0 hts gX10_works_X10_numberOf rfl rfl rfl (by decide +kernel) ⟨Nat.le_of_ble_eq_true rfl, Nat.le_of_ble_eq_true rfl⟩) ⟨xPre_blind, va_recv hK hP (ci := 10) (q0 := 0) rfl rfl, xPre_at hK hPc hDc n1 n2⟩ rfl rfl hl.1 rfl (lv_room (Nat.le_of_ble_eq_true rfl)) dX10_works_130 ⟨Nat.zero_le _, Nat.zero_le _⟩) (fun r42 u H locs hw hP hD hS => ?_)
                try dsimp only at hw
                have hP : va_P (dC, dI) vwCl (wld_X10_works cI cJ cZ h_p0 ad_p0 p0_places p0_steps p0_pastFirst p0_past p0_goings p0_rowSize p0_ways y24 y23 p0_faultNow p0_hasTree p0_treeSize p0_weightCount p0_roundCount p0_setCount y25 p0_closes p0_colour s41 y27 y28 p0_leads p0_needs y29 y30 p0_puts p0_sort p0_takes) H := hP
                have hD : va_D A (wld_X10_works cI cJ cZ h_p0 ad_p0 p0_places p0_steps p0_pastFirst p0_past p0_goings p0_rowSize p0_ways y24 y23 p0_faultNow p0_hasTree p0_treeSize p0_weightCount p0_roundCount p0_setCount y25 p0_closes p0_colour s41 y27 y28 p0_leads p0_needs y29 y30 p0_puts p0_sort p0_takes) := hD
                refine lv_istore (lv' := [(5, .int r42), (0, .ref h_p0), (2, .int a2)]) hx hb dX10_works_133 hl (by decide) rfl (fun ls hl => ?_)
                refine lv_aload_n hx hb dX10_works_135 rfl (lv_at hl 1 rfl) ?_
                refine lv_aload_n hx hb dX10_works_136 rfl (lv_at hl 1 rfl) ?_
                refine lv_iload hx hb dX10_works_137 (lv_at hl 0 rfl) ?_
                obtain ⟨hPc, hDc⟩ := x_sub (wc := (wld_X10_leastNotTo cI cJ cZ h_p0 ad_p0 p0_places p0_steps p0_pastFirst p0_past p0_goings p0_rowSize p0_ways y24 y23 p0_faultNow p0_hasTree p0_treeSize p0_weightCount p0_roundCount p0_setCount p0_leads y29)) hP hD [0, 7, 9] (n := 14) rfl rfl (by decide +kernel)
                refine x_calli (ws' := fun (u : (Nat → Int32)) => (wld_X10_works cI cJ cZ h_p0 ad_p0 p0_places p0_steps p0_pastFirst p0_past p0_goings p0_rowSize p0_ways y24 y23 p0_faultNow p0_hasTree p0_treeSize p0_weightCount p0_roundCount p0_setCount y25 p0_closes p0_colour s41 y27 y28 u p0_needs y29 y30 p0_puts p0_sort p0_takes)) hP hD hS hA [0, 7, 9] [1, 2, 3, 4, 5, 6, 8, 10, 11, 12, 13] [11, 0, 1, 2, 3, 4, 5, 12, 6, 13, 7, 8, 9, 10] (n := 14) (k := 3) rfl (fun _ => rfl) rfl (by decide +kernel) (fun _ => rfl) (va_runV (As := [.int r42]) (rest := [.ref h_p0]) ⟨hx, hb, hml, hown, hts⟩ (c_X10_leastNotTo (l := l) (dC := dC) (dI := dI) (cI := cI) (cJ := cJ) (cZ := cZ) (sz := H.size) (h_p0 := h_p0) (ad_p0 := ad_p0) (p0_places := p0_places) (p0_steps := p0_steps) (p0_pastFirst := p0_pastFirst) (p0_past := p0_past) (p0_goings := p0_goings) (p0_rowSize := p0_rowSize) (p0_ways := p0_ways) (p0_hasField := y24) (p0_fieldSize := y23) (p0_faultNow := p0_faultNow) (p0_hasTree := p0_hasTree) (p0_treeSize := p0_treeSize) (p0_weightCount := p0_weightCount) (p0_roundCount := p0_roundCount) (p0_setCount := p0_setCount) (p0_leads := p0_leads) (p0_next := y29) hw) (cwV 1 hts gX10_works_X10_leastNotTo rfl rfl rfl (by decide +kernel) ⟨Nat.le_of_ble_eq_true rfl, Nat.le_of_ble_eq_true rfl⟩) ⟨xPre_blind, va_recv hK hP (ci := 10) (q0 := 0) rfl rfl, xPre_at hK hPc hDc n1 n2⟩ rfl rfl hl.1 rfl (lv_room (Nat.le_of_ble_eq_true rfl)) dX10_works_139 ⟨Nat.zero_le _, Nat.zero_le _⟩) (fun r43 u H locs hw hP hD hS => ?_)
                obtain ⟨y44, rfl⟩ : ∃ z, z = u := ⟨_, rfl⟩
                try dsimp only at hw
                have hP : va_P (dC, dI) vwCl (wld_X10_works cI cJ cZ h_p0 ad_p0 p0_places p0_steps p0_pastFirst p0_past p0_goings p0_rowSize p0_ways y24 y23 p0_faultNow p0_hasTree p0_treeSize p0_weightCount p0_roundCount p0_setCount y25 p0_closes p0_colour s41 y27 y28 y44 p0_needs y29 y30 p0_puts p0_sort p0_takes) H := hP
                have hD : va_D A (wld_X10_works cI cJ cZ h_p0 ad_p0 p0_places p0_steps p0_pastFirst p0_past p0_goings p0_rowSize p0_ways y24 y23 p0_faultNow p0_hasTree p0_treeSize p0_weightCount p0_roundCount p0_setCount y25 p0_closes p0_colour s41 y27 y28 y44 p0_needs y29 y30 p0_puts p0_sort p0_takes) := hD
                refine va_put (D := (dC, dI)) (ci := 10) (v := .int r43) (ty := .int) (C := RX10) (T := TX10) (N := 50) hx hb hts iX10 tyX10 tyX10_ok nmX10 hown hK hP hD hS 0 rfl rfl 33 (by decide) (hts (.fieldLink RX10 86 "NetHouseModel" "faultNow" "I") (by decide +kernel)) (fun _ h9 => h9) rfl (by decide +kernel) rfl rfl (Nat.le_of_ble_eq_true rfl) dX10_works_142 (fun H locs hP hD hS => ?_)
                have hP : va_P (dC, dI) vwCl (wld_X10_works cI cJ cZ h_p0 ad_p0 p0_places p0_steps p0_pastFirst p0_past p0_goings p0_rowSize p0_ways y24 y23 r43 p0_hasTree p0_treeSize p0_weightCount p0_roundCount p0_setCount y25 p0_closes p0_colour s41 y27 y28 y44 p0_needs y29 y30 p0_puts p0_sort p0_takes) H := hP
                have hD : va_D A (wld_X10_works cI cJ cZ h_p0 ad_p0 p0_places p0_steps p0_pastFirst p0_past p0_goings p0_rowSize p0_ways y24 y23 r43 p0_hasTree p0_treeSize p0_weightCount p0_roundCount p0_setCount y25 p0_closes p0_colour s41 y27 y28 y44 p0_needs y29 y30 p0_puts p0_sort p0_takes) := hD
                refine lv_aload_n hx hb dX10_works_145 rfl (lv_at hl 1 rfl) ?_
                refine va_get (D := (dC, dI)) (ci := 10) (v := .int r43) (C := RX10) (T := TX10) (N := 50) hx hb hts iX10 hown hK hP 0 rfl rfl 33 (by decide) (hts (.fieldLink RX10 86 "NetHouseModel" "faultNow" "I") (by decide +kernel)) (fun _ h9 => h9) rfl dX10_works_146 ?_
                refine lv_ldc (v := -2000000005) hx hb hown (hts (.constant RX10 85 (-2000000005)) (by decide +kernel)) dX10_works_149 ?_
                refine lv_icmp_eq (tgt := 156) hx hb dX10_works_151 (by decide) (fun c45 => ?_) (fun c46 => ?_)
                · have hw := hw.1 c45
                  refine lv_aload_n hx hb dX10_works_156 rfl (lv_at hl 1 rfl) ?_
                  refine lv_aload_n hx hb dX10_works_157 rfl (lv_at hl 1 rfl) ?_
                  refine lv_iload_n hx hb dX10_works_158 rfl (lv_at hl 2 rfl) ?_
                  refine lv_iload hx hb dX10_works_159 (lv_at hl 0 rfl) ?_
                  obtain ⟨hPc, hDc⟩ := x_sub (wc := (wld_X10_leastOther cI cJ cZ h_p0 ad_p0 p0_places p0_steps p0_pastFirst p0_past p0_goings p0_rowSize p0_ways y24 y23 r43 p0_hasTree p0_treeSize p0_weightCount p0_roundCount p0_setCount y27)) hP hD [0, 5] (n := 14) rfl rfl (by decide +kernel)
                  refine x_calli (ws' := fun (u : Unit) => (wld_X10_works cI cJ cZ h_p0 ad_p0 p0_places p0_steps p0_pastFirst p0_past p0_goings p0_rowSize p0_ways y24 y23 r43 p0_hasTree p0_treeSize p0_weightCount p0_roundCount p0_setCount y25 p0_closes p0_colour s41 y27 y28 y44 p0_needs y29 y30 p0_puts p0_sort p0_takes)) hP hD hS hA [0, 5] [1, 2, 3, 4, 6, 7, 8, 9, 10, 11, 12, 13] [12, 0, 1, 2, 3, 13, 4, 5, 6, 7, 8, 9, 10, 11] (n := 14) (k := 2) rfl (fun _ => rfl) rfl (by decide +kernel) (fun _ => rfl) (va_runV (As := [.int a2, .int r42]) (rest := [.ref h_p0]) ⟨hx, hb, hml, hown, hts⟩ (c_X10_leastOther (l := l) (dC := dC) (dI := dI) (cI := cI) (cJ := cJ) (cZ := cZ) (sz := H.size) (h_p0 := h_p0) (ad_p0 := ad_p0) (p0_places := p0_places) (p0_steps := p0_steps) (p0_pastFirst := p0_pastFirst) (p0_past := p0_past) (p0_goings := p0_goings) (p0_rowSize := p0_rowSize) (p0_ways := p0_ways) (p0_hasField := y24) (p0_fieldSize := y23) (p0_faultNow := r43) (p0_hasTree := p0_hasTree) (p0_treeSize := p0_treeSize) (p0_weightCount := p0_weightCount) (p0_roundCount := p0_roundCount) (p0_setCount := p0_setCount) (p0_field := y27) hw) (cwV 2 hts gX10_works_X10_leastOther rfl rfl rfl (by decide +kernel) ⟨Nat.le_of_ble_eq_true rfl, Nat.le_of_ble_eq_true rfl⟩) ⟨xPre_blind, va_recv hK hP (ci := 10) (q0 := 0) rfl rfl, xPre_at hK hPc hDc n1 n2⟩ rfl rfl hl.1 rfl (lv_room (Nat.le_of_ble_eq_true rfl)) dX10_works_161 ⟨Nat.zero_le _, Nat.zero_le _⟩) (fun r47 u H locs hw hP hD hS => ?_)
                  try dsimp only at hw
                  have hP : va_P (dC, dI) vwCl (wld_X10_works cI cJ cZ h_p0 ad_p0 p0_places p0_steps p0_pastFirst p0_past p0_goings p0_rowSize p0_ways y24 y23 r43 p0_hasTree p0_treeSize p0_weightCount p0_roundCount p0_setCount y25 p0_closes p0_colour s41 y27 y28 y44 p0_needs y29 y30 p0_puts p0_sort p0_takes) H := hP
                  have hD : va_D A (wld_X10_works cI cJ cZ h_p0 ad_p0 p0_places p0_steps p0_pastFirst p0_past p0_goings p0_rowSize p0_ways y24 y23 r43 p0_hasTree p0_treeSize p0_weightCount p0_roundCount p0_setCount y25 p0_closes p0_colour s41 y27 y28 y44 p0_needs y29 y30 p0_puts p0_sort p0_takes) := hD
                  refine va_put (D := (dC, dI)) (ci := 10) (v := .int r47) (ty := .int) (C := RX10) (T := TX10) (N := 50) hx hb hts iX10 tyX10 tyX10_ok nmX10 hown hK hP hD hS 0 rfl rfl 33 (by decide) (hts (.fieldLink RX10 86 "NetHouseModel" "faultNow" "I") (by decide +kernel)) (fun _ h9 => h9) rfl (by decide +kernel) rfl rfl (Nat.le_of_ble_eq_true rfl) dX10_works_164 (fun H locs hP hD hS => ?_)
                  have hP : va_P (dC, dI) vwCl (wld_X10_works cI cJ cZ h_p0 ad_p0 p0_places p0_steps p0_pastFirst p0_past p0_goings p0_rowSize p0_ways y24 y23 r47 p0_hasTree p0_treeSize p0_weightCount p0_roundCount p0_setCount y25 p0_closes p0_colour s41 y27 y28 y44 p0_needs y29 y30 p0_puts p0_sort p0_takes) H := hP
                  have hD : va_D A (wld_X10_works cI cJ cZ h_p0 ad_p0 p0_places p0_steps p0_pastFirst p0_past p0_goings p0_rowSize p0_ways y24 y23 r47 p0_hasTree p0_treeSize p0_weightCount p0_roundCount p0_setCount y25 p0_closes p0_colour s41 y27 y28 y44 p0_needs y29 y30 p0_puts p0_sort p0_takes) := hD
                  refine lv_aload_n hx hb dX10_works_167 rfl (lv_at hl 1 rfl) ?_
                  refine va_get (D := (dC, dI)) (ci := 10) (v := .int r47) (C := RX10) (T := TX10) (N := 50) hx hb hts iX10 hown hK hP 0 rfl rfl 33 (by decide) (hts (.fieldLink RX10 86 "NetHouseModel" "faultNow" "I") (by decide +kernel)) (fun _ h9 => h9) rfl dX10_works_168 ?_
                  refine lv_ldc (v := -2000000005) hx hb hown (hts (.constant RX10 85 (-2000000005)) (by decide +kernel)) dX10_works_171 ?_
                  refine lv_icmp_eq (tgt := 178) hx hb dX10_works_173 (by decide) (fun c48 => ?_) (fun c49 => ?_)
                  · have hw := hw.1 c48
                    refine lv_aload_n hx hb dX10_works_178 rfl (lv_at hl 1 rfl) ?_
                    refine lv_aload_n hx hb dX10_works_179 rfl (lv_at hl 1 rfl) ?_
                    obtain ⟨hPc, hDc⟩ := x_sub (wc := (wld_X10_leastIdle cI cJ cZ h_p0 ad_p0 p0_places p0_steps p0_pastFirst p0_past p0_goings p0_rowSize p0_ways y24 y23 r47 p0_hasTree p0_treeSize p0_weightCount p0_roundCount p0_setCount y29)) hP hD [0, 9] (n := 14) rfl rfl (by decide +kernel)
                    refine x_calli (ws' := fun (u : Unit) => (wld_X10_works cI cJ cZ h_p0 ad_p0 p0_places p0_steps p0_pastFirst p0_past p0_goings p0_rowSize p0_ways y24 y23 r47 p0_hasTree p0_treeSize p0_weightCount p0_roundCount p0_setCount y25 p0_closes p0_colour s41 y27 y28 y44 p0_needs y29 y30 p0_puts p0_sort p0_takes)) hP hD hS hA [0, 9] [1, 2, 3, 4, 5, 6, 7, 8, 10, 11, 12, 13] [12, 0, 1, 2, 3, 4, 5, 6, 7, 13, 8, 9, 10, 11] (n := 14) (k := 2) rfl (fun _ => rfl) rfl (by decide +kernel) (fun _ => rfl) (va_runV (As := []) (rest := [.ref h_p0]) ⟨hx, hb, hml, hown, hts⟩ (c_X10_leastIdle (l := l) (dC := dC) (dI := dI) (cI := cI) (cJ := cJ) (cZ := cZ) (sz := H.size) (h_p0 := h_p0) (ad_p0 := ad_p0) (p0_places := p0_places) (p0_steps := p0_steps) (p0_pastFirst := p0_pastFirst) (p0_past := p0_past) (p0_goings := p0_goings) (p0_rowSize := p0_rowSize) (p0_ways := p0_ways) (p0_hasField := y24) (p0_fieldSize := y23) (p0_faultNow := r47) (p0_hasTree := p0_hasTree) (p0_treeSize := p0_treeSize) (p0_weightCount := p0_weightCount) (p0_roundCount := p0_roundCount) (p0_setCount := p0_setCount) (p0_next := y29) hw) (cwV 0 hts gX10_works_X10_leastIdle rfl rfl rfl (by decide +kernel) ⟨Nat.le_of_ble_eq_true rfl, Nat.le_of_ble_eq_true rfl⟩) ⟨xPre_blind, va_recv hK hP (ci := 10) (q0 := 0) rfl rfl, xPre_at hK hPc hDc n1 n2⟩ rfl rfl hl.1 rfl (lv_room (Nat.le_of_ble_eq_true rfl)) dX10_works_180 ⟨Nat.zero_le _, Nat.zero_le _⟩) (fun r50 u H locs hw hP hD hS => ?_)
                    try dsimp only at hw
                    have hP : va_P (dC, dI) vwCl (wld_X10_works cI cJ cZ h_p0 ad_p0 p0_places p0_steps p0_pastFirst p0_past p0_goings p0_rowSize p0_ways y24 y23 r47 p0_hasTree p0_treeSize p0_weightCount p0_roundCount p0_setCount y25 p0_closes p0_colour s41 y27 y28 y44 p0_needs y29 y30 p0_puts p0_sort p0_takes) H := hP
                    have hD : va_D A (wld_X10_works cI cJ cZ h_p0 ad_p0 p0_places p0_steps p0_pastFirst p0_past p0_goings p0_rowSize p0_ways y24 y23 r47 p0_hasTree p0_treeSize p0_weightCount p0_roundCount p0_setCount y25 p0_closes p0_colour s41 y27 y28 y44 p0_needs y29 y30 p0_puts p0_sort p0_takes) := hD
                    refine va_put (D := (dC, dI)) (ci := 10) (v := .int r50) (ty := .int) (C := RX10) (T := TX10) (N := 50) hx hb hts iX10 tyX10 tyX10_ok nmX10 hown hK hP hD hS 0 rfl rfl 33 (by decide) (hts (.fieldLink RX10 86 "NetHouseModel" "faultNow" "I") (by decide +kernel)) (fun _ h9 => h9) rfl (by decide +kernel) rfl rfl (Nat.le_of_ble_eq_true rfl) dX10_works_183 (fun H locs hP hD hS => ?_)
                    have hP : va_P (dC, dI) vwCl (wld_X10_works cI cJ cZ h_p0 ad_p0 p0_places p0_steps p0_pastFirst p0_past p0_goings p0_rowSize p0_ways y24 y23 r50 p0_hasTree p0_treeSize p0_weightCount p0_roundCount p0_setCount y25 p0_closes p0_colour s41 y27 y28 y44 p0_needs y29 y30 p0_puts p0_sort p0_takes) H := hP
                    have hD : va_D A (wld_X10_works cI cJ cZ h_p0 ad_p0 p0_places p0_steps p0_pastFirst p0_past p0_goings p0_rowSize p0_ways y24 y23 r50 p0_hasTree p0_treeSize p0_weightCount p0_roundCount p0_setCount y25 p0_closes p0_colour s41 y27 y28 y44 p0_needs y29 y30 p0_puts p0_sort p0_takes) := hD
                    refine lv_aload_n hx hb dX10_works_186 rfl (lv_at hl 1 rfl) ?_
                    refine va_get (D := (dC, dI)) (ci := 10) (v := .int r50) (C := RX10) (T := TX10) (N := 50) hx hb hts iX10 hown hK hP 0 rfl rfl 33 (by decide) (hts (.fieldLink RX10 86 "NetHouseModel" "faultNow" "I") (by decide +kernel)) (fun _ h9 => h9) rfl dX10_works_187 ?_
                    refine lv_ldc (v := -2000000005) hx hb hown (hts (.constant RX10 85 (-2000000005)) (by decide +kernel)) dX10_works_190 ?_
                    refine lv_icmp_eq (tgt := 199) hx hb dX10_works_192 (by decide) (fun c51 => ?_) (fun c52 => ?_)
                    · have hw := hw.1 c51
                      refine lv_iconst (v := 0) hx hb dX10_works_199 (by decide) ?_
                      exact x_iret (w1 := fun (u : (Int32) × (Int32) × (Int32) × (Nat → Int32) × (Nat → Int32) × (Nat → Int32) × (Nat → Int32) × (Nat → Int32) × (Nat → Int32) × (Nat → Int32)) => (wld_X10_works cI cJ cZ h_p0 ad_p0 p0_places p0_steps p0_pastFirst p0_past p0_goings p0_rowSize p0_ways (u.2.2.1) (u.2.1) (u.1) p0_hasTree p0_treeSize p0_weightCount p0_roundCount p0_setCount (u.2.2.2.1) p0_closes p0_colour (u.2.2.2.2.1) (u.2.2.2.2.2.1) (u.2.2.2.2.2.2.1) (u.2.2.2.2.2.2.2.1) p0_needs (u.2.2.2.2.2.2.2.2.1) (u.2.2.2.2.2.2.2.2.2) p0_puts p0_sort p0_takes)) hx hb hr hlocks (r50, y23, y24, y25, s41, y27, y28, y44, y29, y30) hw hP hD hS dX10_works_200
                    · have hw := hw.2 c52
                      refine lv_iconst (v := 3) hx hb dX10_works_195 (by decide) ?_
                      refine lv_goto (tgt := 200) hx hb dX10_works_196 (by decide) ?_
                      exact x_iret (w1 := fun (u : (Int32) × (Int32) × (Int32) × (Nat → Int32) × (Nat → Int32) × (Nat → Int32) × (Nat → Int32) × (Nat → Int32) × (Nat → Int32) × (Nat → Int32)) => (wld_X10_works cI cJ cZ h_p0 ad_p0 p0_places p0_steps p0_pastFirst p0_past p0_goings p0_rowSize p0_ways (u.2.2.1) (u.2.1) (u.1) p0_hasTree p0_treeSize p0_weightCount p0_roundCount p0_setCount (u.2.2.2.1) p0_closes p0_colour (u.2.2.2.2.1) (u.2.2.2.2.2.1) (u.2.2.2.2.2.2.1) (u.2.2.2.2.2.2.2.1) p0_needs (u.2.2.2.2.2.2.2.2.1) (u.2.2.2.2.2.2.2.2.2) p0_puts p0_sort p0_takes)) hx hb hr hlocks (r50, y23, y24, y25, s41, y27, y28, y44, y29, y30) hw hP hD hS dX10_works_200
                  · have hw := hw.2 c49
                    refine lv_iconst (v := 2) hx hb dX10_works_176 (by decide) ?_
                    exact x_iret (w1 := fun (u : (Int32) × (Int32) × (Int32) × (Nat → Int32) × (Nat → Int32) × (Nat → Int32) × (Nat → Int32) × (Nat → Int32) × (Nat → Int32) × (Nat → Int32)) => (wld_X10_works cI cJ cZ h_p0 ad_p0 p0_places p0_steps p0_pastFirst p0_past p0_goings p0_rowSize p0_ways (u.2.2.1) (u.2.1) (u.1) p0_hasTree p0_treeSize p0_weightCount p0_roundCount p0_setCount (u.2.2.2.1) p0_closes p0_colour (u.2.2.2.2.1) (u.2.2.2.2.2.1) (u.2.2.2.2.2.2.1) (u.2.2.2.2.2.2.2.1) p0_needs (u.2.2.2.2.2.2.2.2.1) (u.2.2.2.2.2.2.2.2.2) p0_puts p0_sort p0_takes)) hx hb hr hlocks (r47, y23, y24, y25, s41, y27, y28, y44, y29, y30) hw hP hD hS dX10_works_177
                · have hw := hw.2 c46
                  refine lv_iconst (v := 1) hx hb dX10_works_154 (by decide) ?_
                  exact x_iret (w1 := fun (u : (Int32) × (Int32) × (Int32) × (Nat → Int32) × (Nat → Int32) × (Nat → Int32) × (Nat → Int32) × (Nat → Int32) × (Nat → Int32) × (Nat → Int32)) => (wld_X10_works cI cJ cZ h_p0 ad_p0 p0_places p0_steps p0_pastFirst p0_past p0_goings p0_rowSize p0_ways (u.2.2.1) (u.2.1) (u.1) p0_hasTree p0_treeSize p0_weightCount p0_roundCount p0_setCount (u.2.2.2.1) p0_closes p0_colour (u.2.2.2.2.1) (u.2.2.2.2.2.1) (u.2.2.2.2.2.2.1) (u.2.2.2.2.2.2.2.1) p0_needs (u.2.2.2.2.2.2.2.2.1) (u.2.2.2.2.2.2.2.2.2) p0_puts p0_sort p0_takes)) hx hb hr hlocks (r43, y23, y24, y25, s41, y27, y28, y44, y29, y30) hw hP hD hS dX10_works_155
            · have hw := hw.2 c32
              refine lv_ldc (v := -2000000004) hx hb hown (hts (.constant RX10 251 (-2000000004)) (by decide +kernel)) dX10_works_90 ?_
              exact x_iret (w1 := fun (u : (Int32) × (Int32) × (Int32) × (Nat → Int32) × (Nat → Int32) × (Nat → Int32) × (Nat → Int32) × (Nat → Int32) × (Nat → Int32) × (Nat → Int32)) => (wld_X10_works cI cJ cZ h_p0 ad_p0 p0_places p0_steps p0_pastFirst p0_past p0_goings p0_rowSize p0_ways (u.2.2.1) (u.2.1) (u.1) p0_hasTree p0_treeSize p0_weightCount p0_roundCount p0_setCount (u.2.2.2.1) p0_closes p0_colour (u.2.2.2.2.1) (u.2.2.2.2.2.1) (u.2.2.2.2.2.2.1) (u.2.2.2.2.2.2.2.1) p0_needs (u.2.2.2.2.2.2.2.2.1) (u.2.2.2.2.2.2.2.2.2) p0_puts p0_sort p0_takes)) hx hb hr hlocks (p0_faultNow, y23, y24, y25, y26, y27, y28, p0_leads, y29, y30) hw hP hD hS dX10_works_92
        · have hw := hw.2 c12
          refine lv_ldc (v := -2000000002) hx hb hown (hts (.constant RX10 171 (-2000000002)) (by decide +kernel)) dX10_works_37 ?_
          exact x_iret (w1 := fun (u : (Int32) × (Int32) × (Int32) × (Nat → Int32) × (Nat → Int32) × (Nat → Int32) × (Nat → Int32) × (Nat → Int32) × (Nat → Int32) × (Nat → Int32)) => (wld_X10_works cI cJ cZ h_p0 ad_p0 p0_places p0_steps p0_pastFirst p0_past p0_goings p0_rowSize p0_ways (u.2.2.1) (u.2.1) (u.1) p0_hasTree p0_treeSize p0_weightCount p0_roundCount p0_setCount (u.2.2.2.1) p0_closes p0_colour (u.2.2.2.2.1) (u.2.2.2.2.2.1) (u.2.2.2.2.2.2.1) (u.2.2.2.2.2.2.2.1) p0_needs (u.2.2.2.2.2.2.2.2.1) (u.2.2.2.2.2.2.2.2.2) p0_puts p0_sort p0_takes)) hx hb hr hlocks (p0_faultNow, p0_fieldSize, p0_hasField, p0_by, p0_come, p0_field, p0_former, p0_leads, p0_next, p0_order) hw hP hD hS dX10_works_39
      · have hw := hw.2 c9
        refine lv_ldc (v := -2000000001) hx hb hown (hts (.constant RX10 159 (-2000000001)) (by decide +kernel)) dX10_works_27 ?_
        exact x_iret (w1 := fun (u : (Int32) × (Int32) × (Int32) × (Nat → Int32) × (Nat → Int32) × (Nat → Int32) × (Nat → Int32) × (Nat → Int32) × (Nat → Int32) × (Nat → Int32)) => (wld_X10_works cI cJ cZ h_p0 ad_p0 p0_places p0_steps p0_pastFirst p0_past p0_goings p0_rowSize p0_ways (u.2.2.1) (u.2.1) (u.1) p0_hasTree p0_treeSize p0_weightCount p0_roundCount p0_setCount (u.2.2.2.1) p0_closes p0_colour (u.2.2.2.2.1) (u.2.2.2.2.2.1) (u.2.2.2.2.2.2.1) (u.2.2.2.2.2.2.2.1) p0_needs (u.2.2.2.2.2.2.2.2.1) (u.2.2.2.2.2.2.2.2.2) p0_puts p0_sort p0_takes)) hx hb hr hlocks (p0_faultNow, p0_fieldSize, p0_hasField, p0_by, p0_come, p0_field, p0_former, p0_leads, p0_next, p0_order) hw hP hD hS dX10_works_29
