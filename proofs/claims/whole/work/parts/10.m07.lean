abbrev wld_X10_move (cI cJ cZ : ClassId) (h_p0 : Nat) (ad_p0 : Nat → Nat) (p0_places : Int32) (p0_steps : Int32) (p0_pastFirst : Int32) (p0_past : Int32) (p0_goings : Int32) (p0_rowSize : Int32) (p0_ways : Int32) (p0_hasField : Int32) (p0_fieldSize : Int32) (p0_faultNow : Int32) (p0_hasTree : Int32) (p0_treeSize : Int32) (p0_weightCount : Int32) (p0_roundCount : Int32) (p0_setCount : Int32) (p0_gifts : Nat → Int32) (p0_has : Nat → Int32) (p0_puts : Nat → Int32) (p0_takes : Nat → Int32) (p0_things : Nat → Int32) (p0_wants : Nat → Int32) : va_W := [(h_p0, .inr (10, [.int p0_places, .int p0_steps, .ref (ad_p0 2), .ref (ad_p0 3), .ref (ad_p0 4), .ref (ad_p0 5), .ref (ad_p0 6), .ref (ad_p0 7), .ref (ad_p0 8), .ref (ad_p0 9), .ref (ad_p0 10), .ref (ad_p0 11), .ref (ad_p0 12), .ref (ad_p0 13), .ref (ad_p0 14), .int p0_pastFirst, .int p0_past, .int p0_goings, .int p0_rowSize, .ref (ad_p0 19), .ref (ad_p0 20), .int p0_ways, .ref (ad_p0 22), .ref (ad_p0 23), .int p0_hasField, .int p0_fieldSize, .ref (ad_p0 26), .ref (ad_p0 27), .ref (ad_p0 28), .ref (ad_p0 29), .ref (ad_p0 30), .ref (ad_p0 31), .ref (ad_p0 32), .int p0_faultNow, .int p0_hasTree, .int p0_treeSize, .ref (ad_p0 36), .ref (ad_p0 37), .ref (ad_p0 38), .ref (ad_p0 39), .ref (ad_p0 40), .ref (ad_p0 41), .ref (ad_p0 42), .int p0_weightCount, .ref (ad_p0 44), .int p0_roundCount, .ref (ad_p0 46), .int p0_setCount, .ref (ad_p0 48), .ref (ad_p0 49)])), ((ad_p0 9), .inl (cI, 256, .inl p0_gifts)), ((ad_p0 10), .inl (cI, 16, .inl p0_has)), ((ad_p0 5), .inl (cI, 256, .inl p0_puts)), ((ad_p0 4), .inl (cI, 256, .inl p0_takes)), ((ad_p0 11), .inl (cI, 320, .inl p0_things)), ((ad_p0 8), .inl (cI, 256, .inl p0_wants))]
abbrev q_X10_move (dC : Nat → ClassId) (dI : Nat → Nat → Nat) (cI cJ cZ : ClassId) (h_p0 : Nat) (ad_p0 : Nat → Nat) (p0_places : Int32) (p0_steps : Int32) (p0_pastFirst : Int32) (p0_past : Int32) (p0_goings : Int32) (p0_rowSize : Int32) (p0_ways : Int32) (p0_hasField : Int32) (p0_fieldSize : Int32) (p0_faultNow : Int32) (p0_hasTree : Int32) (p0_treeSize : Int32) (p0_weightCount : Int32) (p0_roundCount : Int32) (p0_setCount : Int32) (p0_gifts : Nat → Int32) (p0_has : Nat → Int32) (p0_puts : Nat → Int32) (p0_takes : Nat → Int32) (p0_things : Nat → Int32) (p0_wants : Nat → Int32) (post : (Nat → Int32) → (Nat → Int32) → Prop) (A : Nat → Prop) : Array Value → State → Outcome → State → Prop := va_Qv (fun (u : (Nat → Int32) × (Nat → Int32)) => post (u.1) (u.2)) (fun (u : (Nat → Int32) × (Nat → Int32)) t => xPost (dC, dI) A (wld_X10_move cI cJ cZ h_p0 ad_p0 p0_places p0_steps p0_pastFirst p0_past p0_goings p0_rowSize p0_ways p0_hasField p0_fieldSize p0_faultNow p0_hasTree p0_treeSize p0_weightCount p0_roundCount p0_setCount p0_gifts (u.1) p0_puts p0_takes (u.2) p0_wants) t) A
def w_X10_move_L21b (v2 : Int32) (v3 : Int32) (p0_gifts : Nat → Int32) (p0_has : Nat → Int32) (p0_puts : Nat → Int32) (p0_takes : Nat → Int32) (p0_wants : Nat → Int32) (post : (Nat → Int32) → (Nat → Int32) → Prop) (K : (Int32) → (Int32) → (Int32) → (Nat → Int32) → Prop) (rec : (Int32) → (Int32) → (Int32) → (Nat → Int32) → Prop) (v4 : Int32) (v5 : Int32) (v6 : Int32) (p0_things : Nat → Int32) : Prop :=
    vp_in v2 16 ∧
    ((p0_has v2.toNatClampNeg) ≤ v6 →
      K v4 v5 v6 p0_things) ∧
    (¬ (p0_has v2.toNatClampNeg) ≤ v6 →
      vp_in (((20 : Int32) * v2) + v6) 320 ∧
      ∀ x5 : Int32, x5 = (p0_things (((20 : Int32) * v2) + v6).toNatClampNeg) →
      (v4 ≤ 0 →
        vp_in (((20 : Int32) * v2) + v5) 320 ∧
        ∀ x8 : Int32, x8 = v5 + (1 : Int32) →
        ∀ x9 : Int32, x9 = v6 + (1 : Int32) →
        rec v4 x8 x9 (upd p0_things (((20 : Int32) * v2) + v5).toNatClampNeg x5)) ∧
      (¬ v4 ≤ 0 →
        vp_in v3 256 ∧
        w_X10_isOfKind x5 (p0_wants v3.toNatClampNeg) (fun r10 =>
        (r10 = 0 →
          vp_in (((20 : Int32) * v2) + v5) 320 ∧
          ∀ x13 : Int32, x13 = v5 + (1 : Int32) →
          ∀ x14 : Int32, x14 = v6 + (1 : Int32) →
          rec v4 x13 x14 (upd p0_things (((20 : Int32) * v2) + v5).toNatClampNeg x5)) ∧
        (¬ r10 = 0 →
          ∀ x15 : Int32, x15 = v4 + (-1 : Int32) →
          ∀ x16 : Int32, x16 = v6 + (1 : Int32) →
          rec x15 v5 x16 p0_things))))
def w_X10_move_L21 (v2 : Int32) (v3 : Int32) (p0_gifts : Nat → Int32) (p0_has : Nat → Int32) (p0_puts : Nat → Int32) (p0_takes : Nat → Int32) (p0_wants : Nat → Int32) (post : (Nat → Int32) → (Nat → Int32) → Prop) (K : (Int32) → (Int32) → (Int32) → (Nat → Int32) → Prop) : Nat → (Int32) → (Int32) → (Int32) → (Nat → Int32) → Prop
  | 0, _, _, _, _ => False
  | n + 1, v4, v5, v6, p0_things => w_X10_move_L21b v2 v3 p0_gifts p0_has p0_puts p0_takes p0_wants post K (w_X10_move_L21 v2 v3 p0_gifts p0_has p0_puts p0_takes p0_wants post K n) v4 v5 v6 p0_things
def w_X10_move_L97b (v2 : Int32) (v3 : Int32) (p0_gifts : Nat → Int32) (p0_has : Nat → Int32) (p0_puts : Nat → Int32) (p0_takes : Nat → Int32) (p0_wants : Nat → Int32) (post : (Nat → Int32) → (Nat → Int32) → Prop) (K : (Int32) → (Int32) → (Nat → Int32) → Prop) (rec : (Int32) → (Int32) → (Nat → Int32) → Prop) (v5 : Int32) (v6 : Int32) (p0_things : Nat → Int32) : Prop :=
    vp_in v3 256 ∧
    ((p0_puts v3.toNatClampNeg) ≤ v6 →
      K v5 v6 p0_things) ∧
    (¬ (p0_puts v3.toNatClampNeg) ≤ v6 →
      vp_in v3 256 ∧
      vp_in (((20 : Int32) * v2) + v5) 320 ∧
      ∀ x24 : Int32, x24 = v5 + (1 : Int32) →
      ∀ x25 : Int32, x25 = v6 + (1 : Int32) →
      rec x24 x25 (upd p0_things (((20 : Int32) * v2) + v5).toNatClampNeg (p0_gifts v3.toNatClampNeg)))
def w_X10_move_L97 (v2 : Int32) (v3 : Int32) (p0_gifts : Nat → Int32) (p0_has : Nat → Int32) (p0_puts : Nat → Int32) (p0_takes : Nat → Int32) (p0_wants : Nat → Int32) (post : (Nat → Int32) → (Nat → Int32) → Prop) (K : (Int32) → (Int32) → (Nat → Int32) → Prop) : Nat → (Int32) → (Int32) → (Nat → Int32) → Prop
  | 0, _, _, _ => False
  | n + 1, v5, v6, p0_things => w_X10_move_L97b v2 v3 p0_gifts p0_has p0_puts p0_takes p0_wants post K (w_X10_move_L97 v2 v3 p0_gifts p0_has p0_puts p0_takes p0_wants post K n) v5 v6 p0_things
def w_X10_move (p0_gifts : Nat → Int32) (p0_has : Nat → Int32) (p0_puts : Nat → Int32) (p0_takes : Nat → Int32) (p0_things : Nat → Int32) (p0_wants : Nat → Int32) (a1 : Int32) (a2 : Int32) (post : (Nat → Int32) → (Nat → Int32) → Prop) : Prop :=
  ∀ x1 : Int32, x1 = (((16 : Int32) * a1) + a2) →
  vp_in x1 256 ∧
  ∀ x2 : Int32, x2 = (p0_takes x1.toNatClampNeg) →
  ∃ n : Nat, w_X10_move_L21 a2 x1 p0_gifts p0_has p0_puts p0_takes p0_wants post (fun v18 v19 v20 s21 =>
      ∃ n : Nat, w_X10_move_L97 a2 x1 p0_gifts p0_has p0_puts p0_takes p0_wants post (fun v27 v28 s29 =>
          vp_in a2 16 ∧
          (post (upd p0_has a2.toNatClampNeg v27) s29)) n v19 (0 : Int32) s21) n x2 (0 : Int32) (0 : Int32) p0_things
set_option maxHeartbeats 4000000 in
set_option maxRecDepth 100000 in
theorem c_X10_move_L21 {p : Program} {l : Launch} {e : Env} {s : State} {m : MethodId} {args : Array Value} {below : List Frame} {meth : Method} {c : Code} {dC : Nat → ClassId} {dI : Nat → Nat → Nat} {A : Nat → Prop} {cI cJ cZ : ClassId} {h_p0 : Nat} {ad_p0 : Nat → Nat} {p0_places : Int32} {p0_steps : Int32} {p0_pastFirst : Int32} {p0_past : Int32} {p0_goings : Int32} {p0_rowSize : Int32} {p0_ways : Int32} {p0_hasField : Int32} {p0_fieldSize : Int32} {p0_faultNow : Int32} {p0_hasTree : Int32} {p0_treeSize : Int32} {p0_weightCount : Int32} {p0_roundCount : Int32} {p0_setCount : Int32} {p0_gifts : Nat → Int32} {p0_has : Nat → Int32} {p0_puts : Nat → Int32} {p0_takes : Nat → Int32} {p0_wants : Nat → Int32} {v2 : Int32} {v3 : Int32} {z_p0_things : Nat → Int32} {post : (Nat → Int32) → (Nat → Int32) → Prop} {K : (Int32) → (Int32) → (Int32) → (Nat → Int32) → Prop} (E0 : xEnv p s m args meth c cX10_move none 8 RX10 wsX10_move (dC, dI) cI cJ cZ A) (hk : ∀ (v4 : Int32) (v5 : Int32) (v6 : Int32) (p0_things : Nat → Int32) (H : Heap) (locs : List Loc) (ls : Array Slot), K v4 v5 v6 p0_things → va_P (dC, dI) vwCl (wld_X10_move cI cJ cZ h_p0 ad_p0 p0_places p0_steps p0_pastFirst p0_past p0_goings p0_rowSize p0_ways p0_hasField p0_fieldSize p0_faultNow p0_hasTree p0_treeSize p0_weightCount p0_roundCount p0_setCount p0_gifts p0_has p0_puts p0_takes p0_things p0_wants) H → va_D A (wld_X10_move cI cJ cZ h_p0 ad_p0 p0_places p0_steps p0_pastFirst p0_past p0_goings p0_rowSize p0_ways p0_hasField p0_fieldSize p0_faultNow p0_hasTree p0_treeSize p0_weightCount p0_roundCount p0_setCount p0_gifts p0_has p0_puts p0_takes p0_things p0_wants) → va_S A s.heap H locs → lv_has ls 8 [(0, .ref h_p0), (2, .int v2), (3, .int v3), (5, .int v5)] → W p l e ({ frames := 1, cells := 0, slots := 0, locals := 21 }) s m args below meth c H locs 0 0 (MQ below (q_X10_move dC dI cI cJ cZ h_p0 ad_p0 p0_places p0_steps p0_pastFirst p0_past p0_goings p0_rowSize p0_ways p0_hasField p0_fieldSize p0_faultNow p0_hasTree p0_treeSize p0_weightCount p0_roundCount p0_setCount p0_gifts p0_has p0_puts p0_takes z_p0_things p0_wants post A) args s 0 0 A) (F0 m 94 ls [])) : ∀ (n : Nat) (v4 : Int32) (v5 : Int32) (v6 : Int32) (p0_things : Nat → Int32), w_X10_move_L21 v2 v3 p0_gifts p0_has p0_puts p0_takes p0_wants post K n v4 v5 v6 p0_things → ∀ (H : Heap) (locs : List Loc) (ls : Array Slot), va_P (dC, dI) vwCl (wld_X10_move cI cJ cZ h_p0 ad_p0 p0_places p0_steps p0_pastFirst p0_past p0_goings p0_rowSize p0_ways p0_hasField p0_fieldSize p0_faultNow p0_hasTree p0_treeSize p0_weightCount p0_roundCount p0_setCount p0_gifts p0_has p0_puts p0_takes p0_things p0_wants) H → va_D A (wld_X10_move cI cJ cZ h_p0 ad_p0 p0_places p0_steps p0_pastFirst p0_past p0_goings p0_rowSize p0_ways p0_hasField p0_fieldSize p0_faultNow p0_hasTree p0_treeSize p0_weightCount p0_roundCount p0_setCount p0_gifts p0_has p0_puts p0_takes p0_things p0_wants) → va_S A s.heap H locs → lv_has ls 8 [(0, .ref h_p0), (2, .int v2), (3, .int v3), (4, .int v4), (5, .int v5), (6, .int v6)] → W p l e ({ frames := 1, cells := 0, slots := 0, locals := 21 }) s m args below meth c H locs 0 0 (MQ below (q_X10_move dC dI cI cJ cZ h_p0 ad_p0 p0_places p0_steps p0_pastFirst p0_past p0_goings p0_rowSize p0_ways p0_hasField p0_fieldSize p0_faultNow p0_hasTree p0_treeSize p0_weightCount p0_roundCount p0_setCount p0_gifts p0_has p0_puts p0_takes z_p0_things p0_wants post A) args s 0 0 A) (F0 m 21 ls []) := by
  obtain ⟨hx, hb, hr, hml, hown, hts, hlocks, hK, hA, n1, n2⟩ := id E0
  have iX10 : ∀ w ∈ u_ws RX10 TX10 50, w ∈ wsX10_move := fun w h => List.mem_cons_of_mem _ (List.mem_append_right _ h)
  intro n
  induction n with
  | zero => intro v4 v5 v6 p0_things hw; exact hw.elim
  | succ n ih =>
    intro v4 v5 v6 p0_things hw H locs ls hP hD hS hl
    have hw : w_X10_move_L21b v2 v3 p0_gifts p0_has p0_puts p0_takes p0_wants post K (w_X10_move_L21 v2 v3 p0_gifts p0_has p0_puts p0_takes p0_wants post K n) v4 v5 v6 p0_things := hw
    unfold w_X10_move_L21b at hw
    refine lv_iload hx hb dX10_move_21 (lv_at hl 5 rfl) ?_
    refine lv_aload_n hx hb dX10_move_23 rfl (lv_at hl 0 rfl) ?_
    refine va_get (D := (dC, dI)) (ci := 10) (v := .ref (ad_p0 10)) (C := RX10) (T := TX10) (N := 50) hx hb hts iX10 hown hK hP 0 rfl rfl 10 (by decide) (hts (.fieldLink RX10 34 "NetHouseModel" "has" "[I") (by decide +kernel)) (fun _ h9 => h9) rfl dX10_move_24 ?_
    refine lv_iload_n hx hb dX10_move_27 rfl (lv_at hl 1 rfl) ?_
    refine va_iald hx hb hK hP 2 0 rfl rfl hw.1 dX10_move_28 ?_
    have hw := hw.2
    refine lv_icmp_ge (tgt := 94) hx hb dX10_move_29 (by decide) (fun c3 => ?_) (fun c4 => ?_)
    · have hw := hw.1 c3
      exact hk _ _ _ _ _ _ _ hw hP hD hS (lv_sub hl [0, 1, 2, 4] rfl)
    · have hw := hw.2 c4
      refine lv_aload_n hx hb dX10_move_32 rfl (lv_at hl 0 rfl) ?_
      refine va_get (D := (dC, dI)) (ci := 10) (v := .ref (ad_p0 11)) (C := RX10) (T := TX10) (N := 50) hx hb hts iX10 hown hK hP 0 rfl rfl 11 (by decide) (hts (.fieldLink RX10 37 "NetHouseModel" "things" "[I") (by decide +kernel)) (fun _ h9 => h9) rfl dX10_move_33 ?_
      refine lv_bipush (v := 20) hx hb dX10_move_36 (by decide) ?_
      refine lv_iload_n hx hb dX10_move_38 rfl (lv_at hl 1 rfl) ?_
      refine lv_imul hx hb dX10_move_39 ?_
      refine lv_iload hx hb dX10_move_40 (lv_at hl 5 rfl) ?_
      refine lv_iadd hx hb dX10_move_42 ?_
      refine va_iald hx hb hK hP 5 0 rfl rfl hw.1 dX10_move_43 ?_
      have hw := hw.2
      refine lv_topi (fun x5 ex5 => ?_)
      have hw := hw x5 ex5
      refine lv_istore (lv' := [(7, .int x5), (0, .ref h_p0), (2, .int v2), (3, .int v3), (4, .int v4), (5, .int v5), (6, .int v6)]) hx hb dX10_move_44 hl (by decide) rfl (fun ls hl => ?_)
      refine lv_iload hx hb dX10_move_46 (lv_at hl 4 rfl) ?_
      refine lv_if_le (tgt := 71) hx hb dX10_move_48 (by decide) (fun c6 => ?_) (fun c7 => ?_)
      · have hw := hw.1 c6
        refine lv_aload_n hx hb dX10_move_71 rfl (lv_at hl 1 rfl) ?_
        refine va_get (D := (dC, dI)) (ci := 10) (v := .ref (ad_p0 11)) (C := RX10) (T := TX10) (N := 50) hx hb hts iX10 hown hK hP 0 rfl rfl 11 (by decide) (hts (.fieldLink RX10 37 "NetHouseModel" "things" "[I") (by decide +kernel)) (fun _ h9 => h9) rfl dX10_move_72 ?_
        refine lv_bipush (v := 20) hx hb dX10_move_75 (by decide) ?_
        refine lv_iload_n hx hb dX10_move_77 rfl (lv_at hl 2 rfl) ?_
        refine lv_imul hx hb dX10_move_78 ?_
        refine lv_iload hx hb dX10_move_79 (lv_at hl 5 rfl) ?_
        refine lv_iadd hx hb dX10_move_81 ?_
        refine lv_iload hx hb dX10_move_82 (lv_at hl 0 rfl) ?_
        refine va_iast hx hb hK hP hD hS 5 0 rfl rfl hw.1 dX10_move_84 (fun H locs hP hD hS => ?_)
        have hw := hw.2
        have hP : va_P (dC, dI) vwCl (wld_X10_move cI cJ cZ h_p0 ad_p0 p0_places p0_steps p0_pastFirst p0_past p0_goings p0_rowSize p0_ways p0_hasField p0_fieldSize p0_faultNow p0_hasTree p0_treeSize p0_weightCount p0_roundCount p0_setCount p0_gifts p0_has p0_puts p0_takes (upd p0_things (((20 : Int32) * v2) + v5).toNatClampNeg x5) p0_wants) H := hP
        have hD : va_D A (wld_X10_move cI cJ cZ h_p0 ad_p0 p0_places p0_steps p0_pastFirst p0_past p0_goings p0_rowSize p0_ways p0_hasField p0_fieldSize p0_faultNow p0_hasTree p0_treeSize p0_weightCount p0_roundCount p0_setCount p0_gifts p0_has p0_puts p0_takes (upd p0_things (((20 : Int32) * v2) + v5).toNatClampNeg x5) p0_wants) := hD
        obtain ⟨x8, ex8⟩ : ∃ y : Int32, y = v5 + (1 : Int32) := ⟨_, rfl⟩
        have hw := hw x8 ex8
        refine lv_iinc (v := x8) (lv' := [(5, .int x8), (7, .int x5), (0, .ref h_p0), (2, .int v2), (3, .int v3), (4, .int v4), (6, .int v6)]) hx hb dX10_move_85 hl (k := 5) rfl (by rw [ex8]; rfl) (by decide) rfl (fun ls hl => ?_)
        obtain ⟨x9, ex9⟩ : ∃ y : Int32, y = v6 + (1 : Int32) := ⟨_, rfl⟩
        have hw := hw x9 ex9
        refine lv_iinc (v := x9) (lv' := [(6, .int x9), (5, .int x8), (7, .int x5), (0, .ref h_p0), (2, .int v2), (3, .int v3), (4, .int v4)]) hx hb dX10_move_88 hl (k := 6) rfl (by rw [ex9]; rfl) (by decide) rfl (fun ls hl => ?_)
        refine lv_goto (tgt := 21) hx hb dX10_move_91 (by decide) ?_
        exact ih _ _ _ _ hw _ _ _ hP hD hS (lv_sub hl [3, 4, 5, 6, 1, 0] rfl)
      · have hw := hw.2 c7
        refine lv_iload hx hb dX10_move_51 (lv_at hl 0 rfl) ?_
        refine lv_aload_n hx hb dX10_move_53 rfl (lv_at hl 1 rfl) ?_
        refine va_get (D := (dC, dI)) (ci := 10) (v := .ref (ad_p0 8)) (C := RX10) (T := TX10) (N := 50) hx hb hts iX10 hown hK hP 0 rfl rfl 8 (by decide) (hts (.fieldLink RX10 28 "NetHouseModel" "wants" "[I") (by decide +kernel)) (fun _ h9 => h9) rfl dX10_move_54 ?_
        refine lv_iload_n hx hb dX10_move_57 rfl (lv_at hl 3 rfl) ?_
        refine va_iald hx hb hK hP 6 0 rfl rfl hw.1 dX10_move_58 ?_
        have hw := hw.2
        obtain ⟨hPc, hDc⟩ := x_sub (wc := (wld_X10_isOfKind cI cJ cZ )) hP hD [] (n := 7) rfl rfl (by decide +kernel)
        refine x_calli (ws' := fun (u : Unit) => (wld_X10_move cI cJ cZ h_p0 ad_p0 p0_places p0_steps p0_pastFirst p0_past p0_goings p0_rowSize p0_ways p0_hasField p0_fieldSize p0_faultNow p0_hasTree p0_treeSize p0_weightCount p0_roundCount p0_setCount p0_gifts p0_has p0_puts p0_takes p0_things p0_wants)) hP hD hS hA [] [0, 1, 2, 3, 4, 5, 6] [0, 1, 2, 3, 4, 5, 6] (n := 7) (k := 0) rfl (fun _ => rfl) rfl (by decide +kernel) (fun _ => rfl) (va_runS (As := [.int x5, .int (p0_wants v3.toNatClampNeg)]) (rest := []) ⟨hx, hb, hml, hown, hts⟩ (c_X10_isOfKind (l := l) (dC := dC) (dI := dI) (cI := cI) (cJ := cJ) (cZ := cZ) (sz := H.size) hw) (va_cwS 2 hts gX10_move_X10_isOfKind rfl rfl rfl (by decide +kernel) ⟨Nat.le_of_ble_eq_true rfl, Nat.le_of_ble_eq_true rfl⟩) ⟨xPre_blind, xPre_at hK hPc hDc n1 n2⟩ rfl rfl hl.1 rfl (lv_room (Nat.le_of_ble_eq_true rfl)) dX10_move_59 ⟨Nat.zero_le _, Nat.zero_le _⟩) (fun r10 u H locs hw hP hD hS => ?_)
        try dsimp only at hw
        have hP : va_P (dC, dI) vwCl (wld_X10_move cI cJ cZ h_p0 ad_p0 p0_places p0_steps p0_pastFirst p0_past p0_goings p0_rowSize p0_ways p0_hasField p0_fieldSize p0_faultNow p0_hasTree p0_treeSize p0_weightCount p0_roundCount p0_setCount p0_gifts p0_has p0_puts p0_takes p0_things p0_wants) H := hP
        have hD : va_D A (wld_X10_move cI cJ cZ h_p0 ad_p0 p0_places p0_steps p0_pastFirst p0_past p0_goings p0_rowSize p0_ways p0_hasField p0_fieldSize p0_faultNow p0_hasTree p0_treeSize p0_weightCount p0_roundCount p0_setCount p0_gifts p0_has p0_puts p0_takes p0_things p0_wants) := hD
        refine lv_if_eq (tgt := 71) hx hb dX10_move_62 (by decide) (fun c11 => ?_) (fun c12 => ?_)
        · have hw := hw.1 c11
          refine lv_aload_n hx hb dX10_move_71 rfl (lv_at hl 1 rfl) ?_
          refine va_get (D := (dC, dI)) (ci := 10) (v := .ref (ad_p0 11)) (C := RX10) (T := TX10) (N := 50) hx hb hts iX10 hown hK hP 0 rfl rfl 11 (by decide) (hts (.fieldLink RX10 37 "NetHouseModel" "things" "[I") (by decide +kernel)) (fun _ h9 => h9) rfl dX10_move_72 ?_
          refine lv_bipush (v := 20) hx hb dX10_move_75 (by decide) ?_
          refine lv_iload_n hx hb dX10_move_77 rfl (lv_at hl 2 rfl) ?_
          refine lv_imul hx hb dX10_move_78 ?_
          refine lv_iload hx hb dX10_move_79 (lv_at hl 5 rfl) ?_
          refine lv_iadd hx hb dX10_move_81 ?_
          refine lv_iload hx hb dX10_move_82 (lv_at hl 0 rfl) ?_
          refine va_iast hx hb hK hP hD hS 5 0 rfl rfl hw.1 dX10_move_84 (fun H locs hP hD hS => ?_)
          have hw := hw.2
          have hP : va_P (dC, dI) vwCl (wld_X10_move cI cJ cZ h_p0 ad_p0 p0_places p0_steps p0_pastFirst p0_past p0_goings p0_rowSize p0_ways p0_hasField p0_fieldSize p0_faultNow p0_hasTree p0_treeSize p0_weightCount p0_roundCount p0_setCount p0_gifts p0_has p0_puts p0_takes (upd p0_things (((20 : Int32) * v2) + v5).toNatClampNeg x5) p0_wants) H := hP
          have hD : va_D A (wld_X10_move cI cJ cZ h_p0 ad_p0 p0_places p0_steps p0_pastFirst p0_past p0_goings p0_rowSize p0_ways p0_hasField p0_fieldSize p0_faultNow p0_hasTree p0_treeSize p0_weightCount p0_roundCount p0_setCount p0_gifts p0_has p0_puts p0_takes (upd p0_things (((20 : Int32) * v2) + v5).toNatClampNeg x5) p0_wants) := hD
          obtain ⟨x13, ex13⟩ : ∃ y : Int32, y = v5 + (1 : Int32) := ⟨_, rfl⟩
          have hw := hw x13 ex13
          refine lv_iinc (v := x13) (lv' := [(5, .int x13), (7, .int x5), (0, .ref h_p0), (2, .int v2), (3, .int v3), (4, .int v4), (6, .int v6)]) hx hb dX10_move_85 hl (k := 5) rfl (by rw [ex13]; rfl) (by decide) rfl (fun ls hl => ?_)
          obtain ⟨x14, ex14⟩ : ∃ y : Int32, y = v6 + (1 : Int32) := ⟨_, rfl⟩
          have hw := hw x14 ex14
          refine lv_iinc (v := x14) (lv' := [(6, .int x14), (5, .int x13), (7, .int x5), (0, .ref h_p0), (2, .int v2), (3, .int v3), (4, .int v4)]) hx hb dX10_move_88 hl (k := 6) rfl (by rw [ex14]; rfl) (by decide) rfl (fun ls hl => ?_)
          refine lv_goto (tgt := 21) hx hb dX10_move_91 (by decide) ?_
          exact ih _ _ _ _ hw _ _ _ hP hD hS (lv_sub hl [3, 4, 5, 6, 1, 0] rfl)
        · have hw := hw.2 c12
          obtain ⟨x15, ex15⟩ : ∃ y : Int32, y = v4 + (-1 : Int32) := ⟨_, rfl⟩
          have hw := hw x15 ex15
          refine lv_iinc (v := x15) (lv' := [(4, .int x15), (7, .int x5), (0, .ref h_p0), (2, .int v2), (3, .int v3), (5, .int v5), (6, .int v6)]) hx hb dX10_move_65 hl (k := 4) rfl (by rw [ex15]; rfl) (by decide) rfl (fun ls hl => ?_)
          refine lv_goto (tgt := 88) hx hb dX10_move_68 (by decide) ?_
          obtain ⟨x16, ex16⟩ : ∃ y : Int32, y = v6 + (1 : Int32) := ⟨_, rfl⟩
          have hw := hw x16 ex16
          refine lv_iinc (v := x16) (lv' := [(6, .int x16), (4, .int x15), (7, .int x5), (0, .ref h_p0), (2, .int v2), (3, .int v3), (5, .int v5)]) hx hb dX10_move_88 hl (k := 6) rfl (by rw [ex16]; rfl) (by decide) rfl (fun ls hl => ?_)
          refine lv_goto (tgt := 21) hx hb dX10_move_91 (by decide) ?_
          exact ih _ _ _ _ hw _ _ _ hP hD hS (lv_sub hl [3, 4, 5, 1, 6, 0] rfl)
set_option maxHeartbeats 4000000 in
set_option maxRecDepth 100000 in
theorem c_X10_move_L97 {p : Program} {l : Launch} {e : Env} {s : State} {m : MethodId} {args : Array Value} {below : List Frame} {meth : Method} {c : Code} {dC : Nat → ClassId} {dI : Nat → Nat → Nat} {A : Nat → Prop} {cI cJ cZ : ClassId} {h_p0 : Nat} {ad_p0 : Nat → Nat} {p0_places : Int32} {p0_steps : Int32} {p0_pastFirst : Int32} {p0_past : Int32} {p0_goings : Int32} {p0_rowSize : Int32} {p0_ways : Int32} {p0_hasField : Int32} {p0_fieldSize : Int32} {p0_faultNow : Int32} {p0_hasTree : Int32} {p0_treeSize : Int32} {p0_weightCount : Int32} {p0_roundCount : Int32} {p0_setCount : Int32} {p0_gifts : Nat → Int32} {p0_has : Nat → Int32} {p0_puts : Nat → Int32} {p0_takes : Nat → Int32} {p0_wants : Nat → Int32} {v2 : Int32} {v3 : Int32} {z_p0_things : Nat → Int32} {post : (Nat → Int32) → (Nat → Int32) → Prop} {K : (Int32) → (Int32) → (Nat → Int32) → Prop} (E0 : xEnv p s m args meth c cX10_move none 8 RX10 wsX10_move (dC, dI) cI cJ cZ A) (hk : ∀ (v5 : Int32) (v6 : Int32) (p0_things : Nat → Int32) (H : Heap) (locs : List Loc) (ls : Array Slot), K v5 v6 p0_things → va_P (dC, dI) vwCl (wld_X10_move cI cJ cZ h_p0 ad_p0 p0_places p0_steps p0_pastFirst p0_past p0_goings p0_rowSize p0_ways p0_hasField p0_fieldSize p0_faultNow p0_hasTree p0_treeSize p0_weightCount p0_roundCount p0_setCount p0_gifts p0_has p0_puts p0_takes p0_things p0_wants) H → va_D A (wld_X10_move cI cJ cZ h_p0 ad_p0 p0_places p0_steps p0_pastFirst p0_past p0_goings p0_rowSize p0_ways p0_hasField p0_fieldSize p0_faultNow p0_hasTree p0_treeSize p0_weightCount p0_roundCount p0_setCount p0_gifts p0_has p0_puts p0_takes p0_things p0_wants) → va_S A s.heap H locs → lv_has ls 8 [(0, .ref h_p0), (2, .int v2), (5, .int v5)] → W p l e ({ frames := 1, cells := 0, slots := 0, locals := 21 }) s m args below meth c H locs 0 0 (MQ below (q_X10_move dC dI cI cJ cZ h_p0 ad_p0 p0_places p0_steps p0_pastFirst p0_past p0_goings p0_rowSize p0_ways p0_hasField p0_fieldSize p0_faultNow p0_hasTree p0_treeSize p0_weightCount p0_roundCount p0_setCount p0_gifts p0_has p0_puts p0_takes z_p0_things p0_wants post A) args s 0 0 A) (F0 m 135 ls [])) : ∀ (n : Nat) (v5 : Int32) (v6 : Int32) (p0_things : Nat → Int32), w_X10_move_L97 v2 v3 p0_gifts p0_has p0_puts p0_takes p0_wants post K n v5 v6 p0_things → ∀ (H : Heap) (locs : List Loc) (ls : Array Slot), va_P (dC, dI) vwCl (wld_X10_move cI cJ cZ h_p0 ad_p0 p0_places p0_steps p0_pastFirst p0_past p0_goings p0_rowSize p0_ways p0_hasField p0_fieldSize p0_faultNow p0_hasTree p0_treeSize p0_weightCount p0_roundCount p0_setCount p0_gifts p0_has p0_puts p0_takes p0_things p0_wants) H → va_D A (wld_X10_move cI cJ cZ h_p0 ad_p0 p0_places p0_steps p0_pastFirst p0_past p0_goings p0_rowSize p0_ways p0_hasField p0_fieldSize p0_faultNow p0_hasTree p0_treeSize p0_weightCount p0_roundCount p0_setCount p0_gifts p0_has p0_puts p0_takes p0_things p0_wants) → va_S A s.heap H locs → lv_has ls 8 [(0, .ref h_p0), (2, .int v2), (3, .int v3), (5, .int v5), (6, .int v6)] → W p l e ({ frames := 1, cells := 0, slots := 0, locals := 21 }) s m args below meth c H locs 0 0 (MQ below (q_X10_move dC dI cI cJ cZ h_p0 ad_p0 p0_places p0_steps p0_pastFirst p0_past p0_goings p0_rowSize p0_ways p0_hasField p0_fieldSize p0_faultNow p0_hasTree p0_treeSize p0_weightCount p0_roundCount p0_setCount p0_gifts p0_has p0_puts p0_takes z_p0_things p0_wants post A) args s 0 0 A) (F0 m 97 ls []) := by
  obtain ⟨hx, hb, hr, hml, hown, hts, hlocks, hK, hA, n1, n2⟩ := id E0
  have iX10 : ∀ w ∈ u_ws RX10 TX10 50, w ∈ wsX10_move := fun w h => List.mem_cons_of_mem _ (List.mem_append_right _ h)
  intro n
  induction n with
  | zero => intro v5 v6 p0_things hw; exact hw.elim
  | succ n ih =>
    intro v5 v6 p0_things hw H locs ls hP hD hS hl
    have hw : w_X10_move_L97b v2 v3 p0_gifts p0_has p0_puts p0_takes p0_wants post K (w_X10_move_L97 v2 v3 p0_gifts p0_has p0_puts p0_takes p0_wants post K n) v5 v6 p0_things := hw
    unfold w_X10_move_L97b at hw
    refine lv_iload hx hb dX10_move_97 (lv_at hl 4 rfl) ?_
    refine lv_aload_n hx hb dX10_move_99 rfl (lv_at hl 0 rfl) ?_
    refine va_get (D := (dC, dI)) (ci := 10) (v := .ref (ad_p0 5)) (C := RX10) (T := TX10) (N := 50) hx hb hts iX10 hown hK hP 0 rfl rfl 5 (by decide) (hts (.fieldLink RX10 19 "NetHouseModel" "puts" "[I") (by decide +kernel)) (fun _ h9 => h9) rfl dX10_move_100 ?_
    refine lv_iload_n hx hb dX10_move_103 rfl (lv_at hl 2 rfl) ?_
    refine va_iald hx hb hK hP 3 0 rfl rfl hw.1 dX10_move_104 ?_
    have hw := hw.2
    refine lv_icmp_ge (tgt := 135) hx hb dX10_move_105 (by decide) (fun c22 => ?_) (fun c23 => ?_)
    · have hw := hw.1 c22
      exact hk _ _ _ _ _ _ hw hP hD hS (lv_sub hl [0, 1, 3] rfl)
    · have hw := hw.2 c23
      refine lv_aload_n hx hb dX10_move_108 rfl (lv_at hl 0 rfl) ?_
      refine va_get (D := (dC, dI)) (ci := 10) (v := .ref (ad_p0 11)) (C := RX10) (T := TX10) (N := 50) hx hb hts iX10 hown hK hP 0 rfl rfl 11 (by decide) (hts (.fieldLink RX10 37 "NetHouseModel" "things" "[I") (by decide +kernel)) (fun _ h9 => h9) rfl dX10_move_109 ?_
      refine lv_bipush (v := 20) hx hb dX10_move_112 (by decide) ?_
      refine lv_iload_n hx hb dX10_move_114 rfl (lv_at hl 1 rfl) ?_
      refine lv_imul hx hb dX10_move_115 ?_
      refine lv_iload hx hb dX10_move_116 (lv_at hl 3 rfl) ?_
      refine lv_iadd hx hb dX10_move_118 ?_
      refine lv_aload_n hx hb dX10_move_119 rfl (lv_at hl 0 rfl) ?_
      refine va_get (D := (dC, dI)) (ci := 10) (v := .ref (ad_p0 9)) (C := RX10) (T := TX10) (N := 50) hx hb hts iX10 hown hK hP 0 rfl rfl 9 (by decide) (hts (.fieldLink RX10 31 "NetHouseModel" "gifts" "[I") (by decide +kernel)) (fun _ h9 => h9) rfl dX10_move_120 ?_
      refine lv_iload_n hx hb dX10_move_123 rfl (lv_at hl 2 rfl) ?_
      refine va_iald hx hb hK hP 1 0 rfl rfl hw.1 dX10_move_124 ?_
      have hw := hw.2
      refine va_iast hx hb hK hP hD hS 5 0 rfl rfl hw.1 dX10_move_125 (fun H locs hP hD hS => ?_)
      have hw := hw.2
      have hP : va_P (dC, dI) vwCl (wld_X10_move cI cJ cZ h_p0 ad_p0 p0_places p0_steps p0_pastFirst p0_past p0_goings p0_rowSize p0_ways p0_hasField p0_fieldSize p0_faultNow p0_hasTree p0_treeSize p0_weightCount p0_roundCount p0_setCount p0_gifts p0_has p0_puts p0_takes (upd p0_things (((20 : Int32) * v2) + v5).toNatClampNeg (p0_gifts v3.toNatClampNeg)) p0_wants) H := hP
      have hD : va_D A (wld_X10_move cI cJ cZ h_p0 ad_p0 p0_places p0_steps p0_pastFirst p0_past p0_goings p0_rowSize p0_ways p0_hasField p0_fieldSize p0_faultNow p0_hasTree p0_treeSize p0_weightCount p0_roundCount p0_setCount p0_gifts p0_has p0_puts p0_takes (upd p0_things (((20 : Int32) * v2) + v5).toNatClampNeg (p0_gifts v3.toNatClampNeg)) p0_wants) := hD
      obtain ⟨x24, ex24⟩ : ∃ y : Int32, y = v5 + (1 : Int32) := ⟨_, rfl⟩
      have hw := hw x24 ex24
      refine lv_iinc (v := x24) (lv' := [(5, .int x24), (0, .ref h_p0), (2, .int v2), (3, .int v3), (6, .int v6)]) hx hb dX10_move_126 hl (k := 3) rfl (by rw [ex24]; rfl) (by decide) rfl (fun ls hl => ?_)
      obtain ⟨x25, ex25⟩ : ∃ y : Int32, y = v6 + (1 : Int32) := ⟨_, rfl⟩
      have hw := hw x25 ex25
      refine lv_iinc (v := x25) (lv' := [(6, .int x25), (5, .int x24), (0, .ref h_p0), (2, .int v2), (3, .int v3)]) hx hb dX10_move_129 hl (k := 4) rfl (by rw [ex25]; rfl) (by decide) rfl (fun ls hl => ?_)
      refine lv_goto (tgt := 97) hx hb dX10_move_132 (by decide) ?_
      exact ih _ _ _ hw _ _ _ hP hD hS (lv_sub hl [2, 3, 4, 1, 0] rfl)
set_option maxHeartbeats 4000000 in
set_option maxRecDepth 100000 in
theorem c_X10_move {l : Launch} {dC : Nat → ClassId} {dI : Nat → Nat → Nat} {sz : Nat} {cI cJ cZ : ClassId} {h_p0 : Nat} {ad_p0 : Nat → Nat} {p0_places : Int32} {p0_steps : Int32} {p0_pastFirst : Int32} {p0_past : Int32} {p0_goings : Int32} {p0_rowSize : Int32} {p0_ways : Int32} {p0_hasField : Int32} {p0_fieldSize : Int32} {p0_faultNow : Int32} {p0_hasTree : Int32} {p0_treeSize : Int32} {p0_weightCount : Int32} {p0_roundCount : Int32} {p0_setCount : Int32} {p0_gifts : Nat → Int32} {p0_has : Nat → Int32} {p0_puts : Nat → Int32} {p0_takes : Nat → Int32} {p0_things : Nat → Int32} {p0_wants : Nat → Int32} {a1 : Int32} {a2 : Int32} {post : (Nat → Int32) → (Nat → Int32) → Prop} (hw : w_X10_move p0_gifts p0_has p0_puts p0_takes p0_things p0_wants a1 a2 post) : Met l yX10_move wsX10_move ({ frames := 1, cells := 0, slots := 0, locals := 21 }) (va_Pc [.ref h_p0, .int a1, .int a2] (xPre (dC, dI) cI cJ cZ (wld_X10_move cI cJ cZ h_p0 ad_p0 p0_places p0_steps p0_pastFirst p0_past p0_goings p0_rowSize p0_ways p0_hasField p0_fieldSize p0_faultNow p0_hasTree p0_treeSize p0_weightCount p0_roundCount p0_setCount p0_gifts p0_has p0_puts p0_takes p0_things p0_wants) sz)) (q_X10_move dC dI cI cJ cZ h_p0 ad_p0 p0_places p0_steps p0_pastFirst p0_past p0_goings p0_rowSize p0_ways p0_hasField p0_fieldSize p0_faultNow p0_hasTree p0_treeSize p0_weightCount p0_roundCount p0_setCount p0_gifts p0_has p0_puts p0_takes p0_things p0_wants post (va_A (wld_X10_move cI cJ cZ h_p0 ad_p0 p0_places p0_steps p0_pastFirst p0_past p0_goings p0_rowSize p0_ways p0_hasField p0_fieldSize p0_faultNow p0_hasTree p0_treeSize p0_weightCount p0_roundCount p0_setCount p0_gifts p0_has p0_puts p0_takes p0_things p0_wants) sz)) 0 0 (va_A (wld_X10_move cI cJ cZ h_p0 ad_p0 p0_places p0_steps p0_pastFirst p0_past p0_goings p0_rowSize p0_ways p0_hasField p0_fieldSize p0_faultNow p0_hasTree p0_treeSize p0_weightCount p0_roundCount p0_setCount p0_gifts p0_has p0_puts p0_takes p0_things p0_wants) sz) := by
  refine x_met (cc := cX10_move) (maxL := 8) (ret := none) (own := RX10) (Qc := fun A => (q_X10_move dC dI cI cJ cZ h_p0 ad_p0 p0_places p0_steps p0_pastFirst p0_past p0_goings p0_rowSize p0_ways p0_hasField p0_fieldSize p0_faultNow p0_hasTree p0_treeSize p0_weightCount p0_roundCount p0_setCount p0_gifts p0_has p0_puts p0_takes p0_things p0_wants post A)) (by decide) rfl rfl (Nat.le_of_ble_eq_true rfl) ?_
  intro p e s m args below meth c A ls E0 hP hD hS hl
  obtain ⟨hx, hb, hr, hml, hown, hts, hlocks, hK, hA, n1, n2⟩ := id E0
  have iX10 : ∀ w ∈ u_ws RX10 TX10 50, w ∈ wsX10_move := fun w h => List.mem_cons_of_mem _ (List.mem_append_right _ h)
  have hS0 := hS
  have hl : lv_has ls 8 [(0, .ref h_p0), (1, .int a1), (2, .int a2)] := hl
  unfold w_X10_move at hw
  obtain ⟨H, hH⟩ : ∃ H, H = s.heap := ⟨_, rfl⟩
  have hS : va_S A s.heap H [] := by rw [hH]; exact hS
  have hP : va_P (dC, dI) vwCl (wld_X10_move cI cJ cZ h_p0 ad_p0 p0_places p0_steps p0_pastFirst p0_past p0_goings p0_rowSize p0_ways p0_hasField p0_fieldSize p0_faultNow p0_hasTree p0_treeSize p0_weightCount p0_roundCount p0_setCount p0_gifts p0_has p0_puts p0_takes p0_things p0_wants) H := by rw [hH]; exact hP
  suffices hG : W p l e ({ frames := 1, cells := 0, slots := 0, locals := 21 }) s m args below meth c H [] 0 0 (MQ below (q_X10_move dC dI cI cJ cZ h_p0 ad_p0 p0_places p0_steps p0_pastFirst p0_past p0_goings p0_rowSize p0_ways p0_hasField p0_fieldSize p0_faultNow p0_hasTree p0_treeSize p0_weightCount p0_roundCount p0_setCount p0_gifts p0_has p0_puts p0_takes p0_things p0_wants post A) args s 0 0 A) (F0 m 0 ls []) by rw [hH] at hG; exact hG
  clear hH
  refine lv_bipush (v := 16) hx hb dX10_move_0 (by decide) ?_
  refine lv_iload_n hx hb dX10_move_2 rfl (lv_at hl 1 rfl) ?_
  refine lv_imul hx hb dX10_move_3 ?_
  refine lv_iload_n hx hb dX10_move_4 rfl (lv_at hl 2 rfl) ?_
  refine lv_iadd hx hb dX10_move_5 ?_
  refine lv_topi (fun x1 ex1 => ?_)
  have hw := hw x1 ex1
  refine lv_istore_n (lv' := [(3, .int x1), (0, .ref h_p0), (1, .int a1), (2, .int a2)]) hx hb dX10_move_6 rfl hl (by decide) rfl (fun ls hl => ?_)
  refine lv_aload_n hx hb dX10_move_7 rfl (lv_at hl 1 rfl) ?_
  refine va_get (D := (dC, dI)) (ci := 10) (v := .ref (ad_p0 4)) (C := RX10) (T := TX10) (N := 50) hx hb hts iX10 hown hK hP 0 rfl rfl 4 (by decide) (hts (.fieldLink RX10 16 "NetHouseModel" "takes" "[I") (by decide +kernel)) (fun _ h9 => h9) rfl dX10_move_8 ?_
  refine lv_iload_n hx hb dX10_move_11 rfl (lv_at hl 0 rfl) ?_
  refine va_iald hx hb hK hP 4 0 rfl rfl hw.1 dX10_move_12 ?_
  have hw := hw.2
  refine lv_topi (fun x2 ex2 => ?_)
  have hw := hw x2 ex2
  refine lv_istore (lv' := [(4, .int x2), (3, .int x1), (0, .ref h_p0), (1, .int a1), (2, .int a2)]) hx hb dX10_move_13 hl (by decide) rfl (fun ls hl => ?_)
  refine lv_iconst (v := 0) hx hb dX10_move_15 (by decide) ?_
  refine lv_istore (lv' := [(5, .int (0 : Int32)), (4, .int x2), (3, .int x1), (0, .ref h_p0), (1, .int a1), (2, .int a2)]) hx hb dX10_move_16 hl (by decide) rfl (fun ls hl => ?_)
  refine lv_iconst (v := 0) hx hb dX10_move_18 (by decide) ?_
  refine lv_istore (lv' := [(6, .int (0 : Int32)), (5, .int (0 : Int32)), (4, .int x2), (3, .int x1), (0, .ref h_p0), (1, .int a1), (2, .int a2)]) hx hb dX10_move_19 hl (by decide) rfl (fun ls hl => ?_)
  obtain ⟨n17, hw⟩ := hw
  refine c_X10_move_L21 (l := l) (z_p0_things := p0_things) E0 ?_ n17 _ _ _ _ hw _ _ _ hP hD hS (lv_sub hl [4, 6, 3, 2, 1, 0] rfl)
  · intro v18 v19 v20 s21 H locs ls hw hP hD hS hl
    have hP : va_P (dC, dI) vwCl (wld_X10_move cI cJ cZ h_p0 ad_p0 p0_places p0_steps p0_pastFirst p0_past p0_goings p0_rowSize p0_ways p0_hasField p0_fieldSize p0_faultNow p0_hasTree p0_treeSize p0_weightCount p0_roundCount p0_setCount p0_gifts p0_has p0_puts p0_takes s21 p0_wants) H := hP
    have hD : va_D A (wld_X10_move cI cJ cZ h_p0 ad_p0 p0_places p0_steps p0_pastFirst p0_past p0_goings p0_rowSize p0_ways p0_hasField p0_fieldSize p0_faultNow p0_hasTree p0_treeSize p0_weightCount p0_roundCount p0_setCount p0_gifts p0_has p0_puts p0_takes s21 p0_wants) := hD
    refine lv_iconst (v := 0) hx hb dX10_move_94 (by decide) ?_
    refine lv_istore (lv' := [(6, .int (0 : Int32)), (0, .ref h_p0), (2, .int a2), (3, .int x1), (5, .int v19)]) hx hb dX10_move_95 hl (by decide) rfl (fun ls hl => ?_)
    obtain ⟨n26, hw⟩ := hw
    refine c_X10_move_L97 (l := l) (z_p0_things := s21) E0 ?_ n26 _ _ _ hw _ _ _ hP hD hS (lv_sub hl [1, 2, 3, 4, 0] rfl)
    · intro v27 v28 s29 H locs ls hw hP hD hS hl
      have hP : va_P (dC, dI) vwCl (wld_X10_move cI cJ cZ h_p0 ad_p0 p0_places p0_steps p0_pastFirst p0_past p0_goings p0_rowSize p0_ways p0_hasField p0_fieldSize p0_faultNow p0_hasTree p0_treeSize p0_weightCount p0_roundCount p0_setCount p0_gifts p0_has p0_puts p0_takes s29 p0_wants) H := hP
      have hD : va_D A (wld_X10_move cI cJ cZ h_p0 ad_p0 p0_places p0_steps p0_pastFirst p0_past p0_goings p0_rowSize p0_ways p0_hasField p0_fieldSize p0_faultNow p0_hasTree p0_treeSize p0_weightCount p0_roundCount p0_setCount p0_gifts p0_has p0_puts p0_takes s29 p0_wants) := hD
      refine lv_aload_n hx hb dX10_move_135 rfl (lv_at hl 0 rfl) ?_
      refine va_get (D := (dC, dI)) (ci := 10) (v := .ref (ad_p0 10)) (C := RX10) (T := TX10) (N := 50) hx hb hts iX10 hown hK hP 0 rfl rfl 10 (by decide) (hts (.fieldLink RX10 34 "NetHouseModel" "has" "[I") (by decide +kernel)) (fun _ h9 => h9) rfl dX10_move_136 ?_
      refine lv_iload_n hx hb dX10_move_139 rfl (lv_at hl 1 rfl) ?_
      refine lv_iload hx hb dX10_move_140 (lv_at hl 2 rfl) ?_
      refine va_iast hx hb hK hP hD hS 2 0 rfl rfl hw.1 dX10_move_142 (fun H locs hP hD hS => ?_)
      have hw := hw.2
      have hP : va_P (dC, dI) vwCl (wld_X10_move cI cJ cZ h_p0 ad_p0 p0_places p0_steps p0_pastFirst p0_past p0_goings p0_rowSize p0_ways p0_hasField p0_fieldSize p0_faultNow p0_hasTree p0_treeSize p0_weightCount p0_roundCount p0_setCount p0_gifts (upd p0_has a2.toNatClampNeg v27) p0_puts p0_takes s29 p0_wants) H := hP
      have hD : va_D A (wld_X10_move cI cJ cZ h_p0 ad_p0 p0_places p0_steps p0_pastFirst p0_past p0_goings p0_rowSize p0_ways p0_hasField p0_fieldSize p0_faultNow p0_hasTree p0_treeSize p0_weightCount p0_roundCount p0_setCount p0_gifts (upd p0_has a2.toNatClampNeg v27) p0_puts p0_takes s29 p0_wants) := hD
      exact x_vret (w1 := fun (u : (Nat → Int32) × (Nat → Int32)) => (wld_X10_move cI cJ cZ h_p0 ad_p0 p0_places p0_steps p0_pastFirst p0_past p0_goings p0_rowSize p0_ways p0_hasField p0_fieldSize p0_faultNow p0_hasTree p0_treeSize p0_weightCount p0_roundCount p0_setCount p0_gifts (u.1) p0_puts p0_takes (u.2) p0_wants)) hx hb hr hlocks ((upd p0_has a2.toNatClampNeg v27), s29) hw hP hD hS dX10_move_143
abbrev wld_X10_goNow (cI cJ cZ : ClassId) (h_p0 : Nat) (ad_p0 : Nat → Nat) (p0_places : Int32) (p0_steps : Int32) (p0_pastFirst : Int32) (p0_past : Int32) (p0_goings : Int32) (p0_rowSize : Int32) (p0_ways : Int32) (p0_hasField : Int32) (p0_fieldSize : Int32) (p0_faultNow : Int32) (p0_hasTree : Int32) (p0_treeSize : Int32) (p0_weightCount : Int32) (p0_roundCount : Int32) (p0_setCount : Int32) (p0_colour : Nat → Int32) (p0_gifts : Nat → Int32) (p0_has : Nat → Int32) (p0_pastHas : Nat → Int32) (p0_pastStep : Nat → Int32) (p0_pastThings : Nat → Int32) (p0_puts : Nat → Int32) (p0_takes : Nat → Int32) (p0_things : Nat → Int32) (p0_wants : Nat → Int32) : va_W := [(h_p0, .inr (10, [.int p0_places, .int p0_steps, .ref (ad_p0 2), .ref (ad_p0 3), .ref (ad_p0 4), .ref (ad_p0 5), .ref (ad_p0 6), .ref (ad_p0 7), .ref (ad_p0 8), .ref (ad_p0 9), .ref (ad_p0 10), .ref (ad_p0 11), .ref (ad_p0 12), .ref (ad_p0 13), .ref (ad_p0 14), .int p0_pastFirst, .int p0_past, .int p0_goings, .int p0_rowSize, .ref (ad_p0 19), .ref (ad_p0 20), .int p0_ways, .ref (ad_p0 22), .ref (ad_p0 23), .int p0_hasField, .int p0_fieldSize, .ref (ad_p0 26), .ref (ad_p0 27), .ref (ad_p0 28), .ref (ad_p0 29), .ref (ad_p0 30), .ref (ad_p0 31), .ref (ad_p0 32), .int p0_faultNow, .int p0_hasTree, .int p0_treeSize, .ref (ad_p0 36), .ref (ad_p0 37), .ref (ad_p0 38), .ref (ad_p0 39), .ref (ad_p0 40), .ref (ad_p0 41), .ref (ad_p0 42), .int p0_weightCount, .ref (ad_p0 44), .int p0_roundCount, .ref (ad_p0 46), .int p0_setCount, .ref (ad_p0 48), .ref (ad_p0 49)])), ((ad_p0 2), .inl (cI, 16, .inl p0_colour)), ((ad_p0 9), .inl (cI, 256, .inl p0_gifts)), ((ad_p0 10), .inl (cI, 16, .inl p0_has)), ((ad_p0 13), .inl (cI, 4096, .inl p0_pastHas)), ((ad_p0 12), .inl (cI, 256, .inl p0_pastStep)), ((ad_p0 14), .inl (cI, 81920, .inl p0_pastThings)), ((ad_p0 5), .inl (cI, 256, .inl p0_puts)), ((ad_p0 4), .inl (cI, 256, .inl p0_takes)), ((ad_p0 11), .inl (cI, 320, .inl p0_things)), ((ad_p0 8), .inl (cI, 256, .inl p0_wants))]
abbrev q_X10_goNow (dC : Nat → ClassId) (dI : Nat → Nat → Nat) (cI cJ cZ : ClassId) (h_p0 : Nat) (ad_p0 : Nat → Nat) (p0_places : Int32) (p0_steps : Int32) (p0_pastFirst : Int32) (p0_past : Int32) (p0_goings : Int32) (p0_rowSize : Int32) (p0_ways : Int32) (p0_hasField : Int32) (p0_fieldSize : Int32) (p0_faultNow : Int32) (p0_hasTree : Int32) (p0_treeSize : Int32) (p0_weightCount : Int32) (p0_roundCount : Int32) (p0_setCount : Int32) (p0_colour : Nat → Int32) (p0_gifts : Nat → Int32) (p0_has : Nat → Int32) (p0_pastHas : Nat → Int32) (p0_pastStep : Nat → Int32) (p0_pastThings : Nat → Int32) (p0_puts : Nat → Int32) (p0_takes : Nat → Int32) (p0_things : Nat → Int32) (p0_wants : Nat → Int32) (post : (Int32) → (Int32) → (Int32) → (Nat → Int32) → (Nat → Int32) → (Nat → Int32) → (Nat → Int32) → (Nat → Int32) → Prop) (A : Nat → Prop) : Array Value → State → Outcome → State → Prop := va_Qv (fun (u : (Int32) × (Int32) × (Int32) × (Nat → Int32) × (Nat → Int32) × (Nat → Int32) × (Nat → Int32) × (Nat → Int32)) => post (u.1) (u.2.1) (u.2.2.1) (u.2.2.2.1) (u.2.2.2.2.1) (u.2.2.2.2.2.1) (u.2.2.2.2.2.2.1) (u.2.2.2.2.2.2.2)) (fun (u : (Int32) × (Int32) × (Int32) × (Nat → Int32) × (Nat → Int32) × (Nat → Int32) × (Nat → Int32) × (Nat → Int32)) t => xPost (dC, dI) A (wld_X10_goNow cI cJ cZ h_p0 ad_p0 p0_places p0_steps (u.2.2.1) (u.2.1) (u.1) p0_rowSize p0_ways p0_hasField p0_fieldSize p0_faultNow p0_hasTree p0_treeSize p0_weightCount p0_roundCount p0_setCount p0_colour p0_gifts (u.2.2.2.1) (u.2.2.2.2.1) (u.2.2.2.2.2.1) (u.2.2.2.2.2.2.1) p0_puts p0_takes (u.2.2.2.2.2.2.2) p0_wants) t) A
def w_X10_goNow_L17b (v1 : Int32) (p0_goings : Int32) (p0_past : Int32) (p0_pastFirst : Int32) (p0_places : Int32) (p0_colour : Nat → Int32) (p0_gifts : Nat → Int32) (p0_pastHas : Nat → Int32) (p0_pastStep : Nat → Int32) (p0_pastThings : Nat → Int32) (p0_puts : Nat → Int32) (p0_takes : Nat → Int32) (p0_wants : Nat → Int32) (post : (Int32) → (Int32) → (Int32) → (Nat → Int32) → (Nat → Int32) → (Nat → Int32) → (Nat → Int32) → (Nat → Int32) → Prop) (K : (Int32) → (Nat → Int32) → (Nat → Int32) → Prop) (rec : (Int32) → (Nat → Int32) → (Nat → Int32) → Prop) (v2 : Int32) (p0_has : Nat → Int32) (p0_things : Nat → Int32) : Prop :=
    (p0_places ≤ v2 →
      K v2 p0_has p0_things) ∧
    (¬ p0_places ≤ v2 →
      vp_in v2 16 ∧
      (¬ (p0_colour v2.toNatClampNeg) = (1 : Int32) →
        vp_in v2 16 ∧
        vp_in (((16 : Int32) * v1) + v2) 256 ∧
        vp_in (((16 : Int32) * v1) + v2) 256 ∧
        vp_in v2 16 ∧
        ∀ x11 : Int32, x11 = v2 + (1 : Int32) →
        rec x11 (upd p0_has v2.toNatClampNeg ((p0_has v2.toNatClampNeg) + ((p0_puts (((16 : Int32) * v1) + v2).toNatClampNeg) - (p0_takes (((16 : Int32) * v1) + v2).toNatClampNeg)))) p0_things) ∧
      ((p0_colour v2.toNatClampNeg) = (1 : Int32) →
        w_X10_move p0_gifts p0_has p0_puts p0_takes p0_things p0_wants v1 v2 (fun y12 y13 =>
        ∀ x14 : Int32, x14 = v2 + (1 : Int32) →
        rec x14 y12 y13)))
def w_X10_goNow_L17 (v1 : Int32) (p0_goings : Int32) (p0_past : Int32) (p0_pastFirst : Int32) (p0_places : Int32) (p0_colour : Nat → Int32) (p0_gifts : Nat → Int32) (p0_pastHas : Nat → Int32) (p0_pastStep : Nat → Int32) (p0_pastThings : Nat → Int32) (p0_puts : Nat → Int32) (p0_takes : Nat → Int32) (p0_wants : Nat → Int32) (post : (Int32) → (Int32) → (Int32) → (Nat → Int32) → (Nat → Int32) → (Nat → Int32) → (Nat → Int32) → (Nat → Int32) → Prop) (K : (Int32) → (Nat → Int32) → (Nat → Int32) → Prop) : Nat → (Int32) → (Nat → Int32) → (Nat → Int32) → Prop
  | 0, _, _, _ => False
  | n + 1, v2, p0_has, p0_things => w_X10_goNow_L17b v1 p0_goings p0_past p0_pastFirst p0_places p0_colour p0_gifts p0_pastHas p0_pastStep p0_pastThings p0_puts p0_takes p0_wants post K (w_X10_goNow_L17 v1 p0_goings p0_past p0_pastFirst p0_places p0_colour p0_gifts p0_pastHas p0_pastStep p0_pastThings p0_puts p0_takes p0_wants post K n) v2 p0_has p0_things
def w_X10_goNow (p0_goings : Int32) (p0_past : Int32) (p0_pastFirst : Int32) (p0_places : Int32) (p0_colour : Nat → Int32) (p0_gifts : Nat → Int32) (p0_has : Nat → Int32) (p0_pastHas : Nat → Int32) (p0_pastStep : Nat → Int32) (p0_pastThings : Nat → Int32) (p0_puts : Nat → Int32) (p0_takes : Nat → Int32) (p0_things : Nat → Int32) (p0_wants : Nat → Int32) (a1 : Int32) (post : (Int32) → (Int32) → (Int32) → (Nat → Int32) → (Nat → Int32) → (Nat → Int32) → (Nat → Int32) → (Nat → Int32) → Prop) : Prop :=
  w_X10_keep p0_past p0_pastFirst p0_has p0_pastHas p0_pastStep p0_pastThings p0_things a1 (fun y1 y2 y3 y4 y5 =>
  ∀ x6 : Int32, x6 = (p0_goings + (1 : Int32)) →
  ∃ n : Nat, w_X10_goNow_L17 a1 x6 y1 y2 p0_places p0_colour p0_gifts y3 y4 y5 p0_puts p0_takes p0_wants post (fun v16 s17 s18 =>
      (post x6 y1 y2 s17 y3 y4 y5 s18)) n (0 : Int32) p0_has p0_things)
set_option maxHeartbeats 4000000 in
set_option maxRecDepth 100000 in
theorem c_X10_goNow_L17 {p : Program} {l : Launch} {e : Env} {s : State} {m : MethodId} {args : Array Value} {below : List Frame} {meth : Method} {c : Code} {dC : Nat → ClassId} {dI : Nat → Nat → Nat} {A : Nat → Prop} {cI cJ cZ : ClassId} {h_p0 : Nat} {ad_p0 : Nat → Nat} {p0_places : Int32} {p0_steps : Int32} {p0_pastFirst : Int32} {p0_past : Int32} {p0_goings : Int32} {p0_rowSize : Int32} {p0_ways : Int32} {p0_hasField : Int32} {p0_fieldSize : Int32} {p0_faultNow : Int32} {p0_hasTree : Int32} {p0_treeSize : Int32} {p0_weightCount : Int32} {p0_roundCount : Int32} {p0_setCount : Int32} {p0_colour : Nat → Int32} {p0_gifts : Nat → Int32} {p0_pastHas : Nat → Int32} {p0_pastStep : Nat → Int32} {p0_pastThings : Nat → Int32} {p0_puts : Nat → Int32} {p0_takes : Nat → Int32} {p0_wants : Nat → Int32} {v1 : Int32} {z_p0_has : Nat → Int32} {z_p0_things : Nat → Int32} {post : (Int32) → (Int32) → (Int32) → (Nat → Int32) → (Nat → Int32) → (Nat → Int32) → (Nat → Int32) → (Nat → Int32) → Prop} {K : (Int32) → (Nat → Int32) → (Nat → Int32) → Prop} (E0 : xEnv p s m args meth c cX10_goNow none 3 RX10 wsX10_goNow (dC, dI) cI cJ cZ A) (hk : ∀ (v2 : Int32) (p0_has : Nat → Int32) (p0_things : Nat → Int32) (H : Heap) (locs : List Loc) (ls : Array Slot), K v2 p0_has p0_things → va_P (dC, dI) vwCl (wld_X10_goNow cI cJ cZ h_p0 ad_p0 p0_places p0_steps p0_pastFirst p0_past p0_goings p0_rowSize p0_ways p0_hasField p0_fieldSize p0_faultNow p0_hasTree p0_treeSize p0_weightCount p0_roundCount p0_setCount p0_colour p0_gifts p0_has p0_pastHas p0_pastStep p0_pastThings p0_puts p0_takes p0_things p0_wants) H → va_D A (wld_X10_goNow cI cJ cZ h_p0 ad_p0 p0_places p0_steps p0_pastFirst p0_past p0_goings p0_rowSize p0_ways p0_hasField p0_fieldSize p0_faultNow p0_hasTree p0_treeSize p0_weightCount p0_roundCount p0_setCount p0_colour p0_gifts p0_has p0_pastHas p0_pastStep p0_pastThings p0_puts p0_takes p0_things p0_wants) → va_S A s.heap H locs → lv_has ls 3 [] → W p l e ({ frames := 2, cells := 0, slots := 0, locals := 48 }) s m args below meth c H locs 0 0 (MQ below (q_X10_goNow dC dI cI cJ cZ h_p0 ad_p0 p0_places p0_steps p0_pastFirst p0_past p0_goings p0_rowSize p0_ways p0_hasField p0_fieldSize p0_faultNow p0_hasTree p0_treeSize p0_weightCount p0_roundCount p0_setCount p0_colour p0_gifts z_p0_has p0_pastHas p0_pastStep p0_pastThings p0_puts p0_takes z_p0_things p0_wants post A) args s 0 0 A) (F0 m 82 ls [])) : ∀ (n : Nat) (v2 : Int32) (p0_has : Nat → Int32) (p0_things : Nat → Int32), w_X10_goNow_L17 v1 p0_goings p0_past p0_pastFirst p0_places p0_colour p0_gifts p0_pastHas p0_pastStep p0_pastThings p0_puts p0_takes p0_wants post K n v2 p0_has p0_things → ∀ (H : Heap) (locs : List Loc) (ls : Array Slot), va_P (dC, dI) vwCl (wld_X10_goNow cI cJ cZ h_p0 ad_p0 p0_places p0_steps p0_pastFirst p0_past p0_goings p0_rowSize p0_ways p0_hasField p0_fieldSize p0_faultNow p0_hasTree p0_treeSize p0_weightCount p0_roundCount p0_setCount p0_colour p0_gifts p0_has p0_pastHas p0_pastStep p0_pastThings p0_puts p0_takes p0_things p0_wants) H → va_D A (wld_X10_goNow cI cJ cZ h_p0 ad_p0 p0_places p0_steps p0_pastFirst p0_past p0_goings p0_rowSize p0_ways p0_hasField p0_fieldSize p0_faultNow p0_hasTree p0_treeSize p0_weightCount p0_roundCount p0_setCount p0_colour p0_gifts p0_has p0_pastHas p0_pastStep p0_pastThings p0_puts p0_takes p0_things p0_wants) → va_S A s.heap H locs → lv_has ls 3 [(0, .ref h_p0), (1, .int v1), (2, .int v2)] → W p l e ({ frames := 2, cells := 0, slots := 0, locals := 48 }) s m args below meth c H locs 0 0 (MQ below (q_X10_goNow dC dI cI cJ cZ h_p0 ad_p0 p0_places p0_steps p0_pastFirst p0_past p0_goings p0_rowSize p0_ways p0_hasField p0_fieldSize p0_faultNow p0_hasTree p0_treeSize p0_weightCount p0_roundCount p0_setCount p0_colour p0_gifts z_p0_has p0_pastHas p0_pastStep p0_pastThings p0_puts p0_takes z_p0_things p0_wants post A) args s 0 0 A) (F0 m 17 ls []) := by
  obtain ⟨hx, hb, hr, hml, hown, hts, hlocks, hK, hA, n1, n2⟩ := id E0
  have iX10 : ∀ w ∈ u_ws RX10 TX10 50, w ∈ wsX10_goNow := fun w h => List.mem_cons_of_mem _ (List.mem_append_right _ h)
  intro n
  induction n with
  | zero => intro v2 p0_has p0_things hw; exact hw.elim
  | succ n ih =>
    intro v2 p0_has p0_things hw H locs ls hP hD hS hl
    have hw : w_X10_goNow_L17b v1 p0_goings p0_past p0_pastFirst p0_places p0_colour p0_gifts p0_pastHas p0_pastStep p0_pastThings p0_puts p0_takes p0_wants post K (w_X10_goNow_L17 v1 p0_goings p0_past p0_pastFirst p0_places p0_colour p0_gifts p0_pastHas p0_pastStep p0_pastThings p0_puts p0_takes p0_wants post K n) v2 p0_has p0_things := hw
    unfold w_X10_goNow_L17b at hw
    refine lv_iload_n hx hb dX10_goNow_17 rfl (lv_at hl 2 rfl) ?_
    refine lv_aload_n hx hb dX10_goNow_18 rfl (lv_at hl 0 rfl) ?_
    refine va_get (D := (dC, dI)) (ci := 10) (v := .int p0_places) (C := RX10) (T := TX10) (N := 50) hx hb hts iX10 hown hK hP 0 rfl rfl 0 (by decide) (hts (.fieldLink RX10 127 "NetHouseModel" "places" "I") (by decide +kernel)) (fun _ h9 => h9) rfl dX10_goNow_19 ?_
    refine lv_icmp_ge (tgt := 82) hx hb dX10_goNow_22 (by decide) (fun c7 => ?_) (fun c8 => ?_)
    · have hw := hw.1 c7
      exact hk _ _ _ _ _ _ hw hP hD hS (lv_sub hl [] rfl)
    · have hw := hw.2 c8
      refine lv_aload_n hx hb dX10_goNow_25 rfl (lv_at hl 0 rfl) ?_
      refine va_get (D := (dC, dI)) (ci := 10) (v := .ref (ad_p0 2)) (C := RX10) (T := TX10) (N := 50) hx hb hts iX10 hown hK hP 0 rfl rfl 2 (by decide) (hts (.fieldLink RX10 7 "NetHouseModel" "colour" "[I") (by decide +kernel)) (fun _ h9 => h9) rfl dX10_goNow_26 ?_
      refine lv_iload_n hx hb dX10_goNow_29 rfl (lv_at hl 2 rfl) ?_
      refine va_iald hx hb hK hP 1 0 rfl rfl hw.1 dX10_goNow_30 ?_
      have hw := hw.2
      refine lv_iconst (v := 1) hx hb dX10_goNow_31 (by decide) ?_
      refine lv_icmp_ne (tgt := 44) hx hb dX10_goNow_32 (by decide) (fun c9 => ?_) (fun c10 => ?_)
      · have hw := hw.1 c9
        refine lv_aload_n hx hb dX10_goNow_44 rfl (lv_at hl 0 rfl) ?_
        refine va_get (D := (dC, dI)) (ci := 10) (v := .ref (ad_p0 10)) (C := RX10) (T := TX10) (N := 50) hx hb hts iX10 hown hK hP 0 rfl rfl 10 (by decide) (hts (.fieldLink RX10 34 "NetHouseModel" "has" "[I") (by decide +kernel)) (fun _ h9 => h9) rfl dX10_goNow_45 ?_
        refine lv_iload_n hx hb dX10_goNow_48 rfl (lv_at hl 2 rfl) ?_
        refine lv_dup2_11 hx hb dX10_goNow_49 rfl rfl ?_
        refine va_iald hx hb hK hP 3 0 rfl rfl hw.1 dX10_goNow_50 ?_
        have hw := hw.2
        refine lv_aload_n hx hb dX10_goNow_51 rfl (lv_at hl 0 rfl) ?_
        refine va_get (D := (dC, dI)) (ci := 10) (v := .ref (ad_p0 5)) (C := RX10) (T := TX10) (N := 50) hx hb hts iX10 hown hK hP 0 rfl rfl 5 (by decide) (hts (.fieldLink RX10 19 "NetHouseModel" "puts" "[I") (by decide +kernel)) (fun _ h9 => h9) rfl dX10_goNow_52 ?_
        refine lv_bipush (v := 16) hx hb dX10_goNow_55 (by decide) ?_
        refine lv_iload_n hx hb dX10_goNow_57 rfl (lv_at hl 1 rfl) ?_
        refine lv_imul hx hb dX10_goNow_58 ?_
        refine lv_iload_n hx hb dX10_goNow_59 rfl (lv_at hl 2 rfl) ?_
        refine lv_iadd hx hb dX10_goNow_60 ?_
        refine va_iald hx hb hK hP 7 0 rfl rfl hw.1 dX10_goNow_61 ?_
        have hw := hw.2
        refine lv_aload_n hx hb dX10_goNow_62 rfl (lv_at hl 0 rfl) ?_
        refine va_get (D := (dC, dI)) (ci := 10) (v := .ref (ad_p0 4)) (C := RX10) (T := TX10) (N := 50) hx hb hts iX10 hown hK hP 0 rfl rfl 4 (by decide) (hts (.fieldLink RX10 16 "NetHouseModel" "takes" "[I") (by decide +kernel)) (fun _ h9 => h9) rfl dX10_goNow_63 ?_
        refine lv_bipush (v := 16) hx hb dX10_goNow_66 (by decide) ?_
        refine lv_iload_n hx hb dX10_goNow_68 rfl (lv_at hl 1 rfl) ?_
        refine lv_imul hx hb dX10_goNow_69 ?_
        refine lv_iload_n hx hb dX10_goNow_70 rfl (lv_at hl 2 rfl) ?_
        refine lv_iadd hx hb dX10_goNow_71 ?_
        refine va_iald hx hb hK hP 8 0 rfl rfl hw.1 dX10_goNow_72 ?_
        have hw := hw.2
        refine lv_isub hx hb dX10_goNow_73 ?_
        refine lv_iadd hx hb dX10_goNow_74 ?_
        refine va_iast hx hb hK hP hD hS 3 0 rfl rfl hw.1 dX10_goNow_75 (fun H locs hP hD hS => ?_)
        have hw := hw.2
        have hP : va_P (dC, dI) vwCl (wld_X10_goNow cI cJ cZ h_p0 ad_p0 p0_places p0_steps p0_pastFirst p0_past p0_goings p0_rowSize p0_ways p0_hasField p0_fieldSize p0_faultNow p0_hasTree p0_treeSize p0_weightCount p0_roundCount p0_setCount p0_colour p0_gifts (upd p0_has v2.toNatClampNeg ((p0_has v2.toNatClampNeg) + ((p0_puts (((16 : Int32) * v1) + v2).toNatClampNeg) - (p0_takes (((16 : Int32) * v1) + v2).toNatClampNeg)))) p0_pastHas p0_pastStep p0_pastThings p0_puts p0_takes p0_things p0_wants) H := hP
        have hD : va_D A (wld_X10_goNow cI cJ cZ h_p0 ad_p0 p0_places p0_steps p0_pastFirst p0_past p0_goings p0_rowSize p0_ways p0_hasField p0_fieldSize p0_faultNow p0_hasTree p0_treeSize p0_weightCount p0_roundCount p0_setCount p0_colour p0_gifts (upd p0_has v2.toNatClampNeg ((p0_has v2.toNatClampNeg) + ((p0_puts (((16 : Int32) * v1) + v2).toNatClampNeg) - (p0_takes (((16 : Int32) * v1) + v2).toNatClampNeg)))) p0_pastHas p0_pastStep p0_pastThings p0_puts p0_takes p0_things p0_wants) := hD
        obtain ⟨x11, ex11⟩ : ∃ y : Int32, y = v2 + (1 : Int32) := ⟨_, rfl⟩
        have hw := hw x11 ex11
        refine lv_iinc (v := x11) (lv' := [(2, .int x11), (0, .ref h_p0), (1, .int v1)]) hx hb dX10_goNow_76 hl (k := 2) rfl (by rw [ex11]; rfl) (by decide) rfl (fun ls hl => ?_)
        refine lv_goto (tgt := 17) hx hb dX10_goNow_79 (by decide) ?_
        exact ih _ _ _ hw _ _ _ hP hD hS (lv_sub hl [1, 2, 0] rfl)
      · have hw := hw.2 c10
        refine lv_aload_n hx hb dX10_goNow_35 rfl (lv_at hl 0 rfl) ?_
        refine lv_iload_n hx hb dX10_goNow_36 rfl (lv_at hl 1 rfl) ?_
        refine lv_iload_n hx hb dX10_goNow_37 rfl (lv_at hl 2 rfl) ?_
        obtain ⟨hPc, hDc⟩ := x_sub (wc := (wld_X10_move cI cJ cZ h_p0 ad_p0 p0_places p0_steps p0_pastFirst p0_past p0_goings p0_rowSize p0_ways p0_hasField p0_fieldSize p0_faultNow p0_hasTree p0_treeSize p0_weightCount p0_roundCount p0_setCount p0_gifts p0_has p0_puts p0_takes p0_things p0_wants)) hP hD [0, 2, 3, 7, 8, 9, 10] (n := 11) rfl rfl (by decide +kernel)
        refine x_callv (ws' := fun (u : (Nat → Int32) × (Nat → Int32)) => (wld_X10_goNow cI cJ cZ h_p0 ad_p0 p0_places p0_steps p0_pastFirst p0_past p0_goings p0_rowSize p0_ways p0_hasField p0_fieldSize p0_faultNow p0_hasTree p0_treeSize p0_weightCount p0_roundCount p0_setCount p0_colour p0_gifts (u.1) p0_pastHas p0_pastStep p0_pastThings p0_puts p0_takes (u.2) p0_wants)) hP hD hS hA [0, 2, 3, 7, 8, 9, 10] [1, 4, 5, 6] [4, 0, 5, 6, 1, 2, 3, 7, 8, 9, 10] (n := 11) (k := 7) rfl (fun _ => rfl) rfl (by decide +kernel) (fun _ => rfl) (va_runV (As := [.int v1, .int v2]) (rest := []) ⟨hx, hb, hml, hown, hts⟩ (c_X10_move (l := l) (dC := dC) (dI := dI) (cI := cI) (cJ := cJ) (cZ := cZ) (sz := H.size) (h_p0 := h_p0) (ad_p0 := ad_p0) (p0_places := p0_places) (p0_steps := p0_steps) (p0_pastFirst := p0_pastFirst) (p0_past := p0_past) (p0_goings := p0_goings) (p0_rowSize := p0_rowSize) (p0_ways := p0_ways) (p0_hasField := p0_hasField) (p0_fieldSize := p0_fieldSize) (p0_faultNow := p0_faultNow) (p0_hasTree := p0_hasTree) (p0_treeSize := p0_treeSize) (p0_weightCount := p0_weightCount) (p0_roundCount := p0_roundCount) (p0_setCount := p0_setCount) (p0_gifts := p0_gifts) (p0_has := p0_has) (p0_puts := p0_puts) (p0_takes := p0_takes) (p0_things := p0_things) (p0_wants := p0_wants) hw) (cwV 2 hts gX10_goNow_X10_move rfl rfl rfl (by decide +kernel) ⟨Nat.le_of_ble_eq_true rfl, Nat.le_of_ble_eq_true rfl⟩) ⟨xPre_blind, va_recv hK hP (ci := 10) (q0 := 0) rfl rfl, xPre_at hK hPc hDc n1 n2⟩ rfl rfl hl.1 rfl (lv_room (Nat.le_of_ble_eq_true rfl)) dX10_goNow_38 ⟨Nat.zero_le _, Nat.zero_le _⟩) (fun u H locs hw hP hD hS => ?_)
        obtain ⟨y12, y13⟩ := u
        try dsimp only at hw
        have hP : va_P (dC, dI) vwCl (wld_X10_goNow cI cJ cZ h_p0 ad_p0 p0_places p0_steps p0_pastFirst p0_past p0_goings p0_rowSize p0_ways p0_hasField p0_fieldSize p0_faultNow p0_hasTree p0_treeSize p0_weightCount p0_roundCount p0_setCount p0_colour p0_gifts y12 p0_pastHas p0_pastStep p0_pastThings p0_puts p0_takes y13 p0_wants) H := hP
        have hD : va_D A (wld_X10_goNow cI cJ cZ h_p0 ad_p0 p0_places p0_steps p0_pastFirst p0_past p0_goings p0_rowSize p0_ways p0_hasField p0_fieldSize p0_faultNow p0_hasTree p0_treeSize p0_weightCount p0_roundCount p0_setCount p0_colour p0_gifts y12 p0_pastHas p0_pastStep p0_pastThings p0_puts p0_takes y13 p0_wants) := hD
        refine lv_goto (tgt := 76) hx hb dX10_goNow_41 (by decide) ?_
        obtain ⟨x14, ex14⟩ : ∃ y : Int32, y = v2 + (1 : Int32) := ⟨_, rfl⟩
        have hw := hw x14 ex14
        refine lv_iinc (v := x14) (lv' := [(2, .int x14), (0, .ref h_p0), (1, .int v1)]) hx hb dX10_goNow_76 hl (k := 2) rfl (by rw [ex14]; rfl) (by decide) rfl (fun ls hl => ?_)
        refine lv_goto (tgt := 17) hx hb dX10_goNow_79 (by decide) ?_
        exact ih _ _ _ hw _ _ _ hP hD hS (lv_sub hl [1, 2, 0] rfl)
set_option maxHeartbeats 4000000 in
set_option maxRecDepth 100000 in
theorem c_X10_goNow {l : Launch} {dC : Nat → ClassId} {dI : Nat → Nat → Nat} {sz : Nat} {cI cJ cZ : ClassId} {h_p0 : Nat} {ad_p0 : Nat → Nat} {p0_places : Int32} {p0_steps : Int32} {p0_pastFirst : Int32} {p0_past : Int32} {p0_goings : Int32} {p0_rowSize : Int32} {p0_ways : Int32} {p0_hasField : Int32} {p0_fieldSize : Int32} {p0_faultNow : Int32} {p0_hasTree : Int32} {p0_treeSize : Int32} {p0_weightCount : Int32} {p0_roundCount : Int32} {p0_setCount : Int32} {p0_colour : Nat → Int32} {p0_gifts : Nat → Int32} {p0_has : Nat → Int32} {p0_pastHas : Nat → Int32} {p0_pastStep : Nat → Int32} {p0_pastThings : Nat → Int32} {p0_puts : Nat → Int32} {p0_takes : Nat → Int32} {p0_things : Nat → Int32} {p0_wants : Nat → Int32} {a1 : Int32} {post : (Int32) → (Int32) → (Int32) → (Nat → Int32) → (Nat → Int32) → (Nat → Int32) → (Nat → Int32) → (Nat → Int32) → Prop} (hw : w_X10_goNow p0_goings p0_past p0_pastFirst p0_places p0_colour p0_gifts p0_has p0_pastHas p0_pastStep p0_pastThings p0_puts p0_takes p0_things p0_wants a1 post) : Met l yX10_goNow wsX10_goNow ({ frames := 2, cells := 0, slots := 0, locals := 48 }) (va_Pc [.ref h_p0, .int a1] (xPre (dC, dI) cI cJ cZ (wld_X10_goNow cI cJ cZ h_p0 ad_p0 p0_places p0_steps p0_pastFirst p0_past p0_goings p0_rowSize p0_ways p0_hasField p0_fieldSize p0_faultNow p0_hasTree p0_treeSize p0_weightCount p0_roundCount p0_setCount p0_colour p0_gifts p0_has p0_pastHas p0_pastStep p0_pastThings p0_puts p0_takes p0_things p0_wants) sz)) (q_X10_goNow dC dI cI cJ cZ h_p0 ad_p0 p0_places p0_steps p0_pastFirst p0_past p0_goings p0_rowSize p0_ways p0_hasField p0_fieldSize p0_faultNow p0_hasTree p0_treeSize p0_weightCount p0_roundCount p0_setCount p0_colour p0_gifts p0_has p0_pastHas p0_pastStep p0_pastThings p0_puts p0_takes p0_things p0_wants post (va_A (wld_X10_goNow cI cJ cZ h_p0 ad_p0 p0_places p0_steps p0_pastFirst p0_past p0_goings p0_rowSize p0_ways p0_hasField p0_fieldSize p0_faultNow p0_hasTree p0_treeSize p0_weightCount p0_roundCount p0_setCount p0_colour p0_gifts p0_has p0_pastHas p0_pastStep p0_pastThings p0_puts p0_takes p0_things p0_wants) sz)) 0 0 (va_A (wld_X10_goNow cI cJ cZ h_p0 ad_p0 p0_places p0_steps p0_pastFirst p0_past p0_goings p0_rowSize p0_ways p0_hasField p0_fieldSize p0_faultNow p0_hasTree p0_treeSize p0_weightCount p0_roundCount p0_setCount p0_colour p0_gifts p0_has p0_pastHas p0_pastStep p0_pastThings p0_puts p0_takes p0_things p0_wants) sz) := by
  refine x_met (cc := cX10_goNow) (maxL := 3) (ret := none) (own := RX10) (Qc := fun A => (q_X10_goNow dC dI cI cJ cZ h_p0 ad_p0 p0_places p0_steps p0_pastFirst p0_past p0_goings p0_rowSize p0_ways p0_hasField p0_fieldSize p0_faultNow p0_hasTree p0_treeSize p0_weightCount p0_roundCount p0_setCount p0_colour p0_gifts p0_has p0_pastHas p0_pastStep p0_pastThings p0_puts p0_takes p0_things p0_wants post A)) (by decide) rfl rfl (Nat.le_of_ble_eq_true rfl) ?_
  intro p e s m args below meth c A ls E0 hP hD hS hl
  obtain ⟨hx, hb, hr, hml, hown, hts, hlocks, hK, hA, n1, n2⟩ := id E0
  have iX10 : ∀ w ∈ u_ws RX10 TX10 50, w ∈ wsX10_goNow := fun w h => List.mem_cons_of_mem _ (List.mem_append_right _ h)
  have hS0 := hS
  have hl : lv_has ls 3 [(0, .ref h_p0), (1, .int a1)] := hl
  unfold w_X10_goNow at hw
  obtain ⟨H, hH⟩ : ∃ H, H = s.heap := ⟨_, rfl⟩
  have hS : va_S A s.heap H [] := by rw [hH]; exact hS
  have hP : va_P (dC, dI) vwCl (wld_X10_goNow cI cJ cZ h_p0 ad_p0 p0_places p0_steps p0_pastFirst p0_past p0_goings p0_rowSize p0_ways p0_hasField p0_fieldSize p0_faultNow p0_hasTree p0_treeSize p0_weightCount p0_roundCount p0_setCount p0_colour p0_gifts p0_has p0_pastHas p0_pastStep p0_pastThings p0_puts p0_takes p0_things p0_wants) H := by rw [hH]; exact hP
  suffices hG : W p l e ({ frames := 2, cells := 0, slots := 0, locals := 48 }) s m args below meth c H [] 0 0 (MQ below (q_X10_goNow dC dI cI cJ cZ h_p0 ad_p0 p0_places p0_steps p0_pastFirst p0_past p0_goings p0_rowSize p0_ways p0_hasField p0_fieldSize p0_faultNow p0_hasTree p0_treeSize p0_weightCount p0_roundCount p0_setCount p0_colour p0_gifts p0_has p0_pastHas p0_pastStep p0_pastThings p0_puts p0_takes p0_things p0_wants post A) args s 0 0 A) (F0 m 0 ls []) by rw [hH] at hG; exact hG
  clear hH
  refine lv_aload_n hx hb dX10_goNow_0 rfl (lv_at hl 0 rfl) ?_
  refine lv_iload_n hx hb dX10_goNow_1 rfl (lv_at hl 1 rfl) ?_
  obtain ⟨hPc, hDc⟩ := x_sub (wc := (wld_X10_keep cI cJ cZ h_p0 ad_p0 p0_places p0_steps p0_pastFirst p0_past p0_goings p0_rowSize p0_ways p0_hasField p0_fieldSize p0_faultNow p0_hasTree p0_treeSize p0_weightCount p0_roundCount p0_setCount p0_has p0_pastHas p0_pastStep p0_pastThings p0_things)) hP hD [0, 3, 4, 5, 6, 9] (n := 11) rfl rfl (by decide +kernel)
  refine x_callv (ws' := fun (u : (Int32) × (Int32) × (Nat → Int32) × (Nat → Int32) × (Nat → Int32)) => (wld_X10_goNow cI cJ cZ h_p0 ad_p0 p0_places p0_steps (u.2.1) (u.1) p0_goings p0_rowSize p0_ways p0_hasField p0_fieldSize p0_faultNow p0_hasTree p0_treeSize p0_weightCount p0_roundCount p0_setCount p0_colour p0_gifts p0_has (u.2.2.1) (u.2.2.2.1) (u.2.2.2.2) p0_puts p0_takes p0_things p0_wants)) hP hD hS hA [0, 3, 4, 5, 6, 9] [1, 2, 7, 8, 10] [5, 0, 1, 6, 7, 8, 9, 2, 3, 10, 4] (n := 11) (k := 6) rfl (fun _ => rfl) rfl (by decide +kernel) (fun _ => rfl) (va_runV (As := [.int a1]) (rest := []) ⟨hx, hb, hml, hown, hts⟩ (c_X10_keep (l := l) (dC := dC) (dI := dI) (cI := cI) (cJ := cJ) (cZ := cZ) (sz := H.size) (h_p0 := h_p0) (ad_p0 := ad_p0) (p0_places := p0_places) (p0_steps := p0_steps) (p0_pastFirst := p0_pastFirst) (p0_past := p0_past) (p0_goings := p0_goings) (p0_rowSize := p0_rowSize) (p0_ways := p0_ways) (p0_hasField := p0_hasField) (p0_fieldSize := p0_fieldSize) (p0_faultNow := p0_faultNow) (p0_hasTree := p0_hasTree) (p0_treeSize := p0_treeSize) (p0_weightCount := p0_weightCount) (p0_roundCount := p0_roundCount) (p0_setCount := p0_setCount) (p0_has := p0_has) (p0_pastHas := p0_pastHas) (p0_pastStep := p0_pastStep) (p0_pastThings := p0_pastThings) (p0_things := p0_things) hw) (cwV 1 hts gX10_goNow_X10_keep rfl rfl rfl (by decide +kernel) ⟨Nat.le_of_ble_eq_true rfl, Nat.le_of_ble_eq_true rfl⟩) ⟨xPre_blind, va_recv hK hP (ci := 10) (q0 := 0) rfl rfl, xPre_at hK hPc hDc n1 n2⟩ rfl rfl hl.1 rfl (lv_room (Nat.le_of_ble_eq_true rfl)) dX10_goNow_2 ⟨Nat.zero_le _, Nat.zero_le _⟩) (fun u H locs hw hP hD hS => ?_)
  obtain ⟨y1, y2, y3, y4, y5⟩ := u
  try dsimp only at hw
  have hP : va_P (dC, dI) vwCl (wld_X10_goNow cI cJ cZ h_p0 ad_p0 p0_places p0_steps y2 y1 p0_goings p0_rowSize p0_ways p0_hasField p0_fieldSize p0_faultNow p0_hasTree p0_treeSize p0_weightCount p0_roundCount p0_setCount p0_colour p0_gifts p0_has y3 y4 y5 p0_puts p0_takes p0_things p0_wants) H := hP
  have hD : va_D A (wld_X10_goNow cI cJ cZ h_p0 ad_p0 p0_places p0_steps y2 y1 p0_goings p0_rowSize p0_ways p0_hasField p0_fieldSize p0_faultNow p0_hasTree p0_treeSize p0_weightCount p0_roundCount p0_setCount p0_colour p0_gifts p0_has y3 y4 y5 p0_puts p0_takes p0_things p0_wants) := hD
  refine lv_aload_n hx hb dX10_goNow_5 rfl (lv_at hl 0 rfl) ?_
  refine lv_dup hx hb dX10_goNow_6 rfl ?_
  refine va_get (D := (dC, dI)) (ci := 10) (v := .int p0_goings) (C := RX10) (T := TX10) (N := 50) hx hb hts iX10 hown hK hP 0 rfl rfl 17 (by decide) (hts (.fieldLink RX10 208 "NetHouseModel" "goings" "I") (by decide +kernel)) (fun _ h9 => h9) rfl dX10_goNow_7 ?_
  refine lv_iconst (v := 1) hx hb dX10_goNow_10 (by decide) ?_
  refine lv_iadd hx hb dX10_goNow_11 ?_
  refine lv_topi (fun x6 ex6 => ?_)
  have hw := hw x6 ex6
  refine va_put (D := (dC, dI)) (ci := 10) (v := .int x6) (ty := .int) (C := RX10) (T := TX10) (N := 50) hx hb hts iX10 tyX10 tyX10_ok nmX10 hown hK hP hD hS 0 rfl rfl 17 (by decide) (hts (.fieldLink RX10 208 "NetHouseModel" "goings" "I") (by decide +kernel)) (fun _ h9 => h9) rfl (by decide +kernel) rfl rfl (Nat.le_of_ble_eq_true rfl) dX10_goNow_12 (fun H locs hP hD hS => ?_)
  have hP : va_P (dC, dI) vwCl (wld_X10_goNow cI cJ cZ h_p0 ad_p0 p0_places p0_steps y2 y1 x6 p0_rowSize p0_ways p0_hasField p0_fieldSize p0_faultNow p0_hasTree p0_treeSize p0_weightCount p0_roundCount p0_setCount p0_colour p0_gifts p0_has y3 y4 y5 p0_puts p0_takes p0_things p0_wants) H := hP
  have hD : va_D A (wld_X10_goNow cI cJ cZ h_p0 ad_p0 p0_places p0_steps y2 y1 x6 p0_rowSize p0_ways p0_hasField p0_fieldSize p0_faultNow p0_hasTree p0_treeSize p0_weightCount p0_roundCount p0_setCount p0_colour p0_gifts p0_has y3 y4 y5 p0_puts p0_takes p0_things p0_wants) := hD
  refine lv_iconst (v := 0) hx hb dX10_goNow_15 (by decide) ?_
  refine lv_istore_n (lv' := [(2, .int (0 : Int32)), (0, .ref h_p0), (1, .int a1)]) hx hb dX10_goNow_16 rfl hl (by decide) rfl (fun ls hl => ?_)
  obtain ⟨n15, hw⟩ := hw
  refine c_X10_goNow_L17 (l := l) (z_p0_has := p0_has) (z_p0_things := p0_things) E0 ?_ n15 _ _ _ hw _ _ _ hP hD hS (lv_sub hl [1, 2, 0] rfl)
  · intro v16 s17 s18 H locs ls hw hP hD hS hl
    have hP : va_P (dC, dI) vwCl (wld_X10_goNow cI cJ cZ h_p0 ad_p0 p0_places p0_steps y2 y1 x6 p0_rowSize p0_ways p0_hasField p0_fieldSize p0_faultNow p0_hasTree p0_treeSize p0_weightCount p0_roundCount p0_setCount p0_colour p0_gifts s17 y3 y4 y5 p0_puts p0_takes s18 p0_wants) H := hP
    have hD : va_D A (wld_X10_goNow cI cJ cZ h_p0 ad_p0 p0_places p0_steps y2 y1 x6 p0_rowSize p0_ways p0_hasField p0_fieldSize p0_faultNow p0_hasTree p0_treeSize p0_weightCount p0_roundCount p0_setCount p0_colour p0_gifts s17 y3 y4 y5 p0_puts p0_takes s18 p0_wants) := hD
    exact x_vret (w1 := fun (u : (Int32) × (Int32) × (Int32) × (Nat → Int32) × (Nat → Int32) × (Nat → Int32) × (Nat → Int32) × (Nat → Int32)) => (wld_X10_goNow cI cJ cZ h_p0 ad_p0 p0_places p0_steps (u.2.2.1) (u.2.1) (u.1) p0_rowSize p0_ways p0_hasField p0_fieldSize p0_faultNow p0_hasTree p0_treeSize p0_weightCount p0_roundCount p0_setCount p0_colour p0_gifts (u.2.2.2.1) (u.2.2.2.2.1) (u.2.2.2.2.2.1) (u.2.2.2.2.2.2.1) p0_puts p0_takes (u.2.2.2.2.2.2.2) p0_wants)) hx hb hr hlocks (x6, y1, y2, s17, y3, y4, y5, s18) hw hP hD hS dX10_goNow_82
abbrev wld_X10_go (cI cJ cZ : ClassId) (h_p0 : Nat) (ad_p0 : Nat → Nat) (p0_places : Int32) (p0_steps : Int32) (p0_pastFirst : Int32) (p0_past : Int32) (p0_goings : Int32) (p0_rowSize : Int32) (p0_ways : Int32) (p0_hasField : Int32) (p0_fieldSize : Int32) (p0_faultNow : Int32) (p0_hasTree : Int32) (p0_treeSize : Int32) (p0_weightCount : Int32) (p0_roundCount : Int32) (p0_setCount : Int32) (p0_closes : Nat → Int32) (p0_colour : Nat → Int32) (p0_gifts : Nat → Int32) (p0_has : Nat → Int32) (p0_needs : Nat → Int32) (p0_pastHas : Nat → Int32) (p0_pastStep : Nat → Int32) (p0_pastThings : Nat → Int32) (p0_puts : Nat → Int32) (p0_sort : Nat → Int32) (p0_takes : Nat → Int32) (p0_things : Nat → Int32) (p0_wants : Nat → Int32) : va_W := [(h_p0, .inr (10, [.int p0_places, .int p0_steps, .ref (ad_p0 2), .ref (ad_p0 3), .ref (ad_p0 4), .ref (ad_p0 5), .ref (ad_p0 6), .ref (ad_p0 7), .ref (ad_p0 8), .ref (ad_p0 9), .ref (ad_p0 10), .ref (ad_p0 11), .ref (ad_p0 12), .ref (ad_p0 13), .ref (ad_p0 14), .int p0_pastFirst, .int p0_past, .int p0_goings, .int p0_rowSize, .ref (ad_p0 19), .ref (ad_p0 20), .int p0_ways, .ref (ad_p0 22), .ref (ad_p0 23), .int p0_hasField, .int p0_fieldSize, .ref (ad_p0 26), .ref (ad_p0 27), .ref (ad_p0 28), .ref (ad_p0 29), .ref (ad_p0 30), .ref (ad_p0 31), .ref (ad_p0 32), .int p0_faultNow, .int p0_hasTree, .int p0_treeSize, .ref (ad_p0 36), .ref (ad_p0 37), .ref (ad_p0 38), .ref (ad_p0 39), .ref (ad_p0 40), .ref (ad_p0 41), .ref (ad_p0 42), .int p0_weightCount, .ref (ad_p0 44), .int p0_roundCount, .ref (ad_p0 46), .int p0_setCount, .ref (ad_p0 48), .ref (ad_p0 49)])), ((ad_p0 7), .inl (cI, 256, .inl p0_closes)), ((ad_p0 2), .inl (cI, 16, .inl p0_colour)), ((ad_p0 9), .inl (cI, 256, .inl p0_gifts)), ((ad_p0 10), .inl (cI, 16, .inl p0_has)), ((ad_p0 6), .inl (cI, 256, .inl p0_needs)), ((ad_p0 13), .inl (cI, 4096, .inl p0_pastHas)), ((ad_p0 12), .inl (cI, 256, .inl p0_pastStep)), ((ad_p0 14), .inl (cI, 81920, .inl p0_pastThings)), ((ad_p0 5), .inl (cI, 256, .inl p0_puts)), ((ad_p0 3), .inl (cI, 16, .inl p0_sort)), ((ad_p0 4), .inl (cI, 256, .inl p0_takes)), ((ad_p0 11), .inl (cI, 320, .inl p0_things)), ((ad_p0 8), .inl (cI, 256, .inl p0_wants))]
abbrev q_X10_go (dC : Nat → ClassId) (dI : Nat → Nat → Nat) (cI cJ cZ : ClassId) (h_p0 : Nat) (ad_p0 : Nat → Nat) (p0_places : Int32) (p0_steps : Int32) (p0_pastFirst : Int32) (p0_past : Int32) (p0_goings : Int32) (p0_rowSize : Int32) (p0_ways : Int32) (p0_hasField : Int32) (p0_fieldSize : Int32) (p0_faultNow : Int32) (p0_hasTree : Int32) (p0_treeSize : Int32) (p0_weightCount : Int32) (p0_roundCount : Int32) (p0_setCount : Int32) (p0_closes : Nat → Int32) (p0_colour : Nat → Int32) (p0_gifts : Nat → Int32) (p0_has : Nat → Int32) (p0_needs : Nat → Int32) (p0_pastHas : Nat → Int32) (p0_pastStep : Nat → Int32) (p0_pastThings : Nat → Int32) (p0_puts : Nat → Int32) (p0_sort : Nat → Int32) (p0_takes : Nat → Int32) (p0_things : Nat → Int32) (p0_wants : Nat → Int32) (post : Int32 → (Int32) → (Int32) → (Int32) → (Nat → Int32) → (Nat → Int32) → (Nat → Int32) → (Nat → Int32) → (Nat → Int32) → Prop) (A : Nat → Prop) : Array Value → State → Outcome → State → Prop := va_Qi (fun r (u : (Int32) × (Int32) × (Int32) × (Nat → Int32) × (Nat → Int32) × (Nat → Int32) × (Nat → Int32) × (Nat → Int32)) => post r (u.1) (u.2.1) (u.2.2.1) (u.2.2.2.1) (u.2.2.2.2.1) (u.2.2.2.2.2.1) (u.2.2.2.2.2.2.1) (u.2.2.2.2.2.2.2)) (fun (u : (Int32) × (Int32) × (Int32) × (Nat → Int32) × (Nat → Int32) × (Nat → Int32) × (Nat → Int32) × (Nat → Int32)) t => xPost (dC, dI) A (wld_X10_go cI cJ cZ h_p0 ad_p0 p0_places p0_steps (u.2.2.1) (u.2.1) (u.1) p0_rowSize p0_ways p0_hasField p0_fieldSize p0_faultNow p0_hasTree p0_treeSize p0_weightCount p0_roundCount p0_setCount p0_closes p0_colour p0_gifts (u.2.2.2.1) p0_needs (u.2.2.2.2.1) (u.2.2.2.2.2.1) (u.2.2.2.2.2.2.1) p0_puts p0_sort p0_takes (u.2.2.2.2.2.2.2) p0_wants) t) A
def w_X10_go (p0_goings : Int32) (p0_past : Int32) (p0_pastFirst : Int32) (p0_places : Int32) (p0_steps : Int32) (p0_closes : Nat → Int32) (p0_colour : Nat → Int32) (p0_gifts : Nat → Int32) (p0_has : Nat → Int32) (p0_needs : Nat → Int32) (p0_pastHas : Nat → Int32) (p0_pastStep : Nat → Int32) (p0_pastThings : Nat → Int32) (p0_puts : Nat → Int32) (p0_sort : Nat → Int32) (p0_takes : Nat → Int32) (p0_things : Nat → Int32) (p0_wants : Nat → Int32) (a1 : Int32) (post : Int32 → (Int32) → (Int32) → (Int32) → (Nat → Int32) → (Nat → Int32) → (Nat → Int32) → (Nat → Int32) → (Nat → Int32) → Prop) : Prop :=
  w_X10_isStep p0_steps a1 (fun r1 =>
  (¬ r1 = 0 →
    w_X10_goesNow p0_places p0_steps p0_closes p0_colour p0_has p0_needs p0_sort p0_takes p0_things p0_wants a1 (fun r4 =>
    (¬ r4 = 0 →
      w_X10_isFull p0_places p0_colour p0_has p0_puts p0_takes a1 (fun r7 =>
      (r7 = 0 →
        w_X10_goNow p0_goings p0_past p0_pastFirst p0_places p0_colour p0_gifts p0_has p0_pastHas p0_pastStep p0_pastThings p0_puts p0_takes p0_things p0_wants a1 (fun y10 y11 y12 y13 y14 y15 y16 y17 =>
        (post (0 : Int32) y10 y11 y12 y13 y14 y15 y16 y17))) ∧
      (¬ r7 = 0 →
        (post (-2000000003 : Int32) p0_goings p0_past p0_pastFirst p0_has p0_pastHas p0_pastStep p0_pastThings p0_things)))) ∧
    (r4 = 0 →
      (post (-2000000002 : Int32) p0_goings p0_past p0_pastFirst p0_has p0_pastHas p0_pastStep p0_pastThings p0_things)))) ∧
  (r1 = 0 →
    (post (-2000000001 : Int32) p0_goings p0_past p0_pastFirst p0_has p0_pastHas p0_pastStep p0_pastThings p0_things)))
set_option maxHeartbeats 4000000 in
set_option maxRecDepth 100000 in
theorem c_X10_go {l : Launch} {dC : Nat → ClassId} {dI : Nat → Nat → Nat} {sz : Nat} {cI cJ cZ : ClassId} {h_p0 : Nat} {ad_p0 : Nat → Nat} {p0_places : Int32} {p0_steps : Int32} {p0_pastFirst : Int32} {p0_past : Int32} {p0_goings : Int32} {p0_rowSize : Int32} {p0_ways : Int32} {p0_hasField : Int32} {p0_fieldSize : Int32} {p0_faultNow : Int32} {p0_hasTree : Int32} {p0_treeSize : Int32} {p0_weightCount : Int32} {p0_roundCount : Int32} {p0_setCount : Int32} {p0_closes : Nat → Int32} {p0_colour : Nat → Int32} {p0_gifts : Nat → Int32} {p0_has : Nat → Int32} {p0_needs : Nat → Int32} {p0_pastHas : Nat → Int32} {p0_pastStep : Nat → Int32} {p0_pastThings : Nat → Int32} {p0_puts : Nat → Int32} {p0_sort : Nat → Int32} {p0_takes : Nat → Int32} {p0_things : Nat → Int32} {p0_wants : Nat → Int32} {a1 : Int32} {post : Int32 → (Int32) → (Int32) → (Int32) → (Nat → Int32) → (Nat → Int32) → (Nat → Int32) → (Nat → Int32) → (Nat → Int32) → Prop} (hw : w_X10_go p0_goings p0_past p0_pastFirst p0_places p0_steps p0_closes p0_colour p0_gifts p0_has p0_needs p0_pastHas p0_pastStep p0_pastThings p0_puts p0_sort p0_takes p0_things p0_wants a1 post) : Met l yX10_go wsX10_go ({ frames := 5, cells := 0, slots := 0, locals := 115 }) (va_Pc [.ref h_p0, .int a1] (xPre (dC, dI) cI cJ cZ (wld_X10_go cI cJ cZ h_p0 ad_p0 p0_places p0_steps p0_pastFirst p0_past p0_goings p0_rowSize p0_ways p0_hasField p0_fieldSize p0_faultNow p0_hasTree p0_treeSize p0_weightCount p0_roundCount p0_setCount p0_closes p0_colour p0_gifts p0_has p0_needs p0_pastHas p0_pastStep p0_pastThings p0_puts p0_sort p0_takes p0_things p0_wants) sz)) (q_X10_go dC dI cI cJ cZ h_p0 ad_p0 p0_places p0_steps p0_pastFirst p0_past p0_goings p0_rowSize p0_ways p0_hasField p0_fieldSize p0_faultNow p0_hasTree p0_treeSize p0_weightCount p0_roundCount p0_setCount p0_closes p0_colour p0_gifts p0_has p0_needs p0_pastHas p0_pastStep p0_pastThings p0_puts p0_sort p0_takes p0_things p0_wants post (va_A (wld_X10_go cI cJ cZ h_p0 ad_p0 p0_places p0_steps p0_pastFirst p0_past p0_goings p0_rowSize p0_ways p0_hasField p0_fieldSize p0_faultNow p0_hasTree p0_treeSize p0_weightCount p0_roundCount p0_setCount p0_closes p0_colour p0_gifts p0_has p0_needs p0_pastHas p0_pastStep p0_pastThings p0_puts p0_sort p0_takes p0_things p0_wants) sz)) 0 0 (va_A (wld_X10_go cI cJ cZ h_p0 ad_p0 p0_places p0_steps p0_pastFirst p0_past p0_goings p0_rowSize p0_ways p0_hasField p0_fieldSize p0_faultNow p0_hasTree p0_treeSize p0_weightCount p0_roundCount p0_setCount p0_closes p0_colour p0_gifts p0_has p0_needs p0_pastHas p0_pastStep p0_pastThings p0_puts p0_sort p0_takes p0_things p0_wants) sz) := by
  refine x_met (cc := cX10_go) (maxL := 2) (ret := (some .int)) (own := RX10) (Qc := fun A => (q_X10_go dC dI cI cJ cZ h_p0 ad_p0 p0_places p0_steps p0_pastFirst p0_past p0_goings p0_rowSize p0_ways p0_hasField p0_fieldSize p0_faultNow p0_hasTree p0_treeSize p0_weightCount p0_roundCount p0_setCount p0_closes p0_colour p0_gifts p0_has p0_needs p0_pastHas p0_pastStep p0_pastThings p0_puts p0_sort p0_takes p0_things p0_wants post A)) (by decide) rfl rfl (Nat.le_of_ble_eq_true rfl) ?_
  intro p e s m args below meth c A ls E0 hP hD hS hl
  obtain ⟨hx, hb, hr, hml, hown, hts, hlocks, hK, hA, n1, n2⟩ := id E0
  have iX10 : ∀ w ∈ u_ws RX10 TX10 50, w ∈ wsX10_go := fun w h => List.mem_cons_of_mem _ (List.mem_append_right _ h)
  have hS0 := hS
  have hl : lv_has ls 2 [(0, .ref h_p0), (1, .int a1)] := hl
  unfold w_X10_go at hw
  obtain ⟨H, hH⟩ : ∃ H, H = s.heap := ⟨_, rfl⟩
  have hS : va_S A s.heap H [] := by rw [hH]; exact hS
  have hP : va_P (dC, dI) vwCl (wld_X10_go cI cJ cZ h_p0 ad_p0 p0_places p0_steps p0_pastFirst p0_past p0_goings p0_rowSize p0_ways p0_hasField p0_fieldSize p0_faultNow p0_hasTree p0_treeSize p0_weightCount p0_roundCount p0_setCount p0_closes p0_colour p0_gifts p0_has p0_needs p0_pastHas p0_pastStep p0_pastThings p0_puts p0_sort p0_takes p0_things p0_wants) H := by rw [hH]; exact hP
  suffices hG : W p l e ({ frames := 5, cells := 0, slots := 0, locals := 115 }) s m args below meth c H [] 0 0 (MQ below (q_X10_go dC dI cI cJ cZ h_p0 ad_p0 p0_places p0_steps p0_pastFirst p0_past p0_goings p0_rowSize p0_ways p0_hasField p0_fieldSize p0_faultNow p0_hasTree p0_treeSize p0_weightCount p0_roundCount p0_setCount p0_closes p0_colour p0_gifts p0_has p0_needs p0_pastHas p0_pastStep p0_pastThings p0_puts p0_sort p0_takes p0_things p0_wants post A) args s 0 0 A) (F0 m 0 ls []) by rw [hH] at hG; exact hG
  clear hH
  refine lv_aload_n hx hb dX10_go_0 rfl (lv_at hl 0 rfl) ?_
  refine lv_iload_n hx hb dX10_go_1 rfl (lv_at hl 1 rfl) ?_
  obtain ⟨hPc, hDc⟩ := x_sub (wc := (wld_X10_isStep cI cJ cZ h_p0 ad_p0 p0_places p0_steps p0_pastFirst p0_past p0_goings p0_rowSize p0_ways p0_hasField p0_fieldSize p0_faultNow p0_hasTree p0_treeSize p0_weightCount p0_roundCount p0_setCount)) hP hD [0] (n := 14) rfl rfl (by decide +kernel)
  refine x_calli (ws' := fun (u : Unit) => (wld_X10_go cI cJ cZ h_p0 ad_p0 p0_places p0_steps p0_pastFirst p0_past p0_goings p0_rowSize p0_ways p0_hasField p0_fieldSize p0_faultNow p0_hasTree p0_treeSize p0_weightCount p0_roundCount p0_setCount p0_closes p0_colour p0_gifts p0_has p0_needs p0_pastHas p0_pastStep p0_pastThings p0_puts p0_sort p0_takes p0_things p0_wants)) hP hD hS hA [0] [1, 2, 3, 4, 5, 6, 7, 8, 9, 10, 11, 12, 13] [13, 0, 1, 2, 3, 4, 5, 6, 7, 8, 9, 10, 11, 12] (n := 14) (k := 1) rfl (fun _ => rfl) rfl (by decide +kernel) (fun _ => rfl) (va_runV (As := [.int a1]) (rest := []) ⟨hx, hb, hml, hown, hts⟩ (c_X10_isStep (l := l) (dC := dC) (dI := dI) (cI := cI) (cJ := cJ) (cZ := cZ) (sz := H.size) (h_p0 := h_p0) (ad_p0 := ad_p0) (p0_places := p0_places) (p0_steps := p0_steps) (p0_pastFirst := p0_pastFirst) (p0_past := p0_past) (p0_goings := p0_goings) (p0_rowSize := p0_rowSize) (p0_ways := p0_ways) (p0_hasField := p0_hasField) (p0_fieldSize := p0_fieldSize) (p0_faultNow := p0_faultNow) (p0_hasTree := p0_hasTree) (p0_treeSize := p0_treeSize) (p0_weightCount := p0_weightCount) (p0_roundCount := p0_roundCount) (p0_setCount := p0_setCount) hw) (cwV 1 hts gX10_go_X10_isStep rfl rfl rfl (by decide +kernel) ⟨Nat.le_of_ble_eq_true rfl, Nat.le_of_ble_eq_true rfl⟩) ⟨xPre_blind, va_recv hK hP (ci := 10) (q0 := 0) rfl rfl, xPre_at hK hPc hDc n1 n2⟩ rfl rfl hl.1 rfl (lv_room (Nat.le_of_ble_eq_true rfl)) dX10_go_2 ⟨Nat.zero_le _, Nat.zero_le _⟩) (fun r1 u H locs hw hP hD hS => ?_)
  try dsimp only at hw
  have hP : va_P (dC, dI) vwCl (wld_X10_go cI cJ cZ h_p0 ad_p0 p0_places p0_steps p0_pastFirst p0_past p0_goings p0_rowSize p0_ways p0_hasField p0_fieldSize p0_faultNow p0_hasTree p0_treeSize p0_weightCount p0_roundCount p0_setCount p0_closes p0_colour p0_gifts p0_has p0_needs p0_pastHas p0_pastStep p0_pastThings p0_puts p0_sort p0_takes p0_things p0_wants) H := hP
  have hD : va_D A (wld_X10_go cI cJ cZ h_p0 ad_p0 p0_places p0_steps p0_pastFirst p0_past p0_goings p0_rowSize p0_ways p0_hasField p0_fieldSize p0_faultNow p0_hasTree p0_treeSize p0_weightCount p0_roundCount p0_setCount p0_closes p0_colour p0_gifts p0_has p0_needs p0_pastHas p0_pastStep p0_pastThings p0_puts p0_sort p0_takes p0_things p0_wants) := hD
  refine lv_if_ne (tgt := 11) hx hb dX10_go_5 (by decide) (fun c2 => ?_) (fun c3 => ?_)
  · have hw := hw.1 c2
    refine lv_aload_n hx hb dX10_go_11 rfl (lv_at hl 0 rfl) ?_
    refine lv_iload_n hx hb dX10_go_12 rfl (lv_at hl 1 rfl) ?_
    obtain ⟨hPc, hDc⟩ := x_sub (wc := (wld_X10_goesNow cI cJ cZ h_p0 ad_p0 p0_places p0_steps p0_pastFirst p0_past p0_goings p0_rowSize p0_ways p0_hasField p0_fieldSize p0_faultNow p0_hasTree p0_treeSize p0_weightCount p0_roundCount p0_setCount p0_closes p0_colour p0_has p0_needs p0_sort p0_takes p0_things p0_wants)) hP hD [0, 1, 2, 4, 5, 10, 11, 12, 13] (n := 14) rfl rfl (by decide +kernel)
    refine x_calli (ws' := fun (u : Unit) => (wld_X10_go cI cJ cZ h_p0 ad_p0 p0_places p0_steps p0_pastFirst p0_past p0_goings p0_rowSize p0_ways p0_hasField p0_fieldSize p0_faultNow p0_hasTree p0_treeSize p0_weightCount p0_roundCount p0_setCount p0_closes p0_colour p0_gifts p0_has p0_needs p0_pastHas p0_pastStep p0_pastThings p0_puts p0_sort p0_takes p0_things p0_wants)) hP hD hS hA [0, 1, 2, 4, 5, 10, 11, 12, 13] [3, 6, 7, 8, 9] [5, 6, 7, 0, 8, 9, 1, 2, 3, 4, 10, 11, 12, 13] (n := 14) (k := 9) rfl (fun _ => rfl) rfl (by decide +kernel) (fun _ => rfl) (va_runV (As := [.int a1]) (rest := []) ⟨hx, hb, hml, hown, hts⟩ (c_X10_goesNow (l := l) (dC := dC) (dI := dI) (cI := cI) (cJ := cJ) (cZ := cZ) (sz := H.size) (h_p0 := h_p0) (ad_p0 := ad_p0) (p0_places := p0_places) (p0_steps := p0_steps) (p0_pastFirst := p0_pastFirst) (p0_past := p0_past) (p0_goings := p0_goings) (p0_rowSize := p0_rowSize) (p0_ways := p0_ways) (p0_hasField := p0_hasField) (p0_fieldSize := p0_fieldSize) (p0_faultNow := p0_faultNow) (p0_hasTree := p0_hasTree) (p0_treeSize := p0_treeSize) (p0_weightCount := p0_weightCount) (p0_roundCount := p0_roundCount) (p0_setCount := p0_setCount) (p0_closes := p0_closes) (p0_colour := p0_colour) (p0_has := p0_has) (p0_needs := p0_needs) (p0_sort := p0_sort) (p0_takes := p0_takes) (p0_things := p0_things) (p0_wants := p0_wants) hw) (cwV 1 hts gX10_go_X10_goesNow rfl rfl rfl (by decide +kernel) ⟨Nat.le_of_ble_eq_true rfl, Nat.le_of_ble_eq_true rfl⟩) ⟨xPre_blind, va_recv hK hP (ci := 10) (q0 := 0) rfl rfl, xPre_at hK hPc hDc n1 n2⟩ rfl rfl hl.1 rfl (lv_room (Nat.le_of_ble_eq_true rfl)) dX10_go_13 ⟨Nat.zero_le _, Nat.zero_le _⟩) (fun r4 u H locs hw hP hD hS => ?_)
    try dsimp only at hw
    have hP : va_P (dC, dI) vwCl (wld_X10_go cI cJ cZ h_p0 ad_p0 p0_places p0_steps p0_pastFirst p0_past p0_goings p0_rowSize p0_ways p0_hasField p0_fieldSize p0_faultNow p0_hasTree p0_treeSize p0_weightCount p0_roundCount p0_setCount p0_closes p0_colour p0_gifts p0_has p0_needs p0_pastHas p0_pastStep p0_pastThings p0_puts p0_sort p0_takes p0_things p0_wants) H := hP
    have hD : va_D A (wld_X10_go cI cJ cZ h_p0 ad_p0 p0_places p0_steps p0_pastFirst p0_past p0_goings p0_rowSize p0_ways p0_hasField p0_fieldSize p0_faultNow p0_hasTree p0_treeSize p0_weightCount p0_roundCount p0_setCount p0_closes p0_colour p0_gifts p0_has p0_needs p0_pastHas p0_pastStep p0_pastThings p0_puts p0_sort p0_takes p0_things p0_wants) := hD
    refine lv_if_ne (tgt := 22) hx hb dX10_go_16 (by decide) (fun c5 => ?_) (fun c6 => ?_)
    · have hw := hw.1 c5
      refine lv_aload_n hx hb dX10_go_22 rfl (lv_at hl 0 rfl) ?_
      refine lv_iload_n hx hb dX10_go_23 rfl (lv_at hl 1 rfl) ?_
      obtain ⟨hPc, hDc⟩ := x_sub (wc := (wld_X10_isFull cI cJ cZ h_p0 ad_p0 p0_places p0_steps p0_pastFirst p0_past p0_goings p0_rowSize p0_ways p0_hasField p0_fieldSize p0_faultNow p0_hasTree p0_treeSize p0_weightCount p0_roundCount p0_setCount p0_colour p0_has p0_puts p0_takes)) hP hD [0, 2, 4, 9, 11] (n := 14) rfl rfl (by decide +kernel)
      refine x_calli (ws' := fun (u : Unit) => (wld_X10_go cI cJ cZ h_p0 ad_p0 p0_places p0_steps p0_pastFirst p0_past p0_goings p0_rowSize p0_ways p0_hasField p0_fieldSize p0_faultNow p0_hasTree p0_treeSize p0_weightCount p0_roundCount p0_setCount p0_closes p0_colour p0_gifts p0_has p0_needs p0_pastHas p0_pastStep p0_pastThings p0_puts p0_sort p0_takes p0_things p0_wants)) hP hD hS hA [0, 2, 4, 9, 11] [1, 3, 5, 6, 7, 8, 10, 12, 13] [9, 0, 10, 1, 11, 2, 3, 4, 5, 12, 6, 13, 7, 8] (n := 14) (k := 5) rfl (fun _ => rfl) rfl (by decide +kernel) (fun _ => rfl) (va_runV (As := [.int a1]) (rest := []) ⟨hx, hb, hml, hown, hts⟩ (c_X10_isFull (l := l) (dC := dC) (dI := dI) (cI := cI) (cJ := cJ) (cZ := cZ) (sz := H.size) (h_p0 := h_p0) (ad_p0 := ad_p0) (p0_places := p0_places) (p0_steps := p0_steps) (p0_pastFirst := p0_pastFirst) (p0_past := p0_past) (p0_goings := p0_goings) (p0_rowSize := p0_rowSize) (p0_ways := p0_ways) (p0_hasField := p0_hasField) (p0_fieldSize := p0_fieldSize) (p0_faultNow := p0_faultNow) (p0_hasTree := p0_hasTree) (p0_treeSize := p0_treeSize) (p0_weightCount := p0_weightCount) (p0_roundCount := p0_roundCount) (p0_setCount := p0_setCount) (p0_colour := p0_colour) (p0_has := p0_has) (p0_puts := p0_puts) (p0_takes := p0_takes) hw) (cwV 1 hts gX10_go_X10_isFull rfl rfl rfl (by decide +kernel) ⟨Nat.le_of_ble_eq_true rfl, Nat.le_of_ble_eq_true rfl⟩) ⟨xPre_blind, va_recv hK hP (ci := 10) (q0 := 0) rfl rfl, xPre_at hK hPc hDc n1 n2⟩ rfl rfl hl.1 rfl (lv_room (Nat.le_of_ble_eq_true rfl)) dX10_go_24 ⟨Nat.zero_le _, Nat.zero_le _⟩) (fun r7 u H locs hw hP hD hS => ?_)
      try dsimp only at hw
      have hP : va_P (dC, dI) vwCl (wld_X10_go cI cJ cZ h_p0 ad_p0 p0_places p0_steps p0_pastFirst p0_past p0_goings p0_rowSize p0_ways p0_hasField p0_fieldSize p0_faultNow p0_hasTree p0_treeSize p0_weightCount p0_roundCount p0_setCount p0_closes p0_colour p0_gifts p0_has p0_needs p0_pastHas p0_pastStep p0_pastThings p0_puts p0_sort p0_takes p0_things p0_wants) H := hP
      have hD : va_D A (wld_X10_go cI cJ cZ h_p0 ad_p0 p0_places p0_steps p0_pastFirst p0_past p0_goings p0_rowSize p0_ways p0_hasField p0_fieldSize p0_faultNow p0_hasTree p0_treeSize p0_weightCount p0_roundCount p0_setCount p0_closes p0_colour p0_gifts p0_has p0_needs p0_pastHas p0_pastStep p0_pastThings p0_puts p0_sort p0_takes p0_things p0_wants) := hD
      refine lv_if_eq (tgt := 33) hx hb dX10_go_27 (by decide) (fun c8 => ?_) (fun c9 => ?_)
      · have hw := hw.1 c8
        refine lv_aload_n hx hb dX10_go_33 rfl (lv_at hl 0 rfl) ?_
        refine lv_iload_n hx hb dX10_go_34 rfl (lv_at hl 1 rfl) ?_
        obtain ⟨hPc, hDc⟩ := x_sub (wc := (wld_X10_goNow cI cJ cZ h_p0 ad_p0 p0_places p0_steps p0_pastFirst p0_past p0_goings p0_rowSize p0_ways p0_hasField p0_fieldSize p0_faultNow p0_hasTree p0_treeSize p0_weightCount p0_roundCount p0_setCount p0_colour p0_gifts p0_has p0_pastHas p0_pastStep p0_pastThings p0_puts p0_takes p0_things p0_wants)) hP hD [0, 2, 3, 4, 6, 7, 8, 9, 11, 12, 13] (n := 14) rfl rfl (by decide +kernel)
        refine x_callv (ws' := fun (u : (Int32) × (Int32) × (Int32) × (Nat → Int32) × (Nat → Int32) × (Nat → Int32) × (Nat → Int32) × (Nat → Int32)) => (wld_X10_go cI cJ cZ h_p0 ad_p0 p0_places p0_steps (u.2.2.1) (u.2.1) (u.1) p0_rowSize p0_ways p0_hasField p0_fieldSize p0_faultNow p0_hasTree p0_treeSize p0_weightCount p0_roundCount p0_setCount p0_closes p0_colour p0_gifts (u.2.2.2.1) p0_needs (u.2.2.2.2.1) (u.2.2.2.2.2.1) (u.2.2.2.2.2.2.1) p0_puts p0_sort p0_takes (u.2.2.2.2.2.2.2) p0_wants)) hP hD hS hA [0, 2, 3, 4, 6, 7, 8, 9, 11, 12, 13] [1, 5, 10] [3, 0, 4, 5, 6, 1, 7, 8, 9, 10, 2, 11, 12, 13] (n := 14) (k := 11) rfl (fun _ => rfl) rfl (by decide +kernel) (fun _ => rfl) (va_runV (As := [.int a1]) (rest := []) ⟨hx, hb, hml, hown, hts⟩ (c_X10_goNow (l := l) (dC := dC) (dI := dI) (cI := cI) (cJ := cJ) (cZ := cZ) (sz := H.size) (h_p0 := h_p0) (ad_p0 := ad_p0) (p0_places := p0_places) (p0_steps := p0_steps) (p0_pastFirst := p0_pastFirst) (p0_past := p0_past) (p0_goings := p0_goings) (p0_rowSize := p0_rowSize) (p0_ways := p0_ways) (p0_hasField := p0_hasField) (p0_fieldSize := p0_fieldSize) (p0_faultNow := p0_faultNow) (p0_hasTree := p0_hasTree) (p0_treeSize := p0_treeSize) (p0_weightCount := p0_weightCount) (p0_roundCount := p0_roundCount) (p0_setCount := p0_setCount) (p0_colour := p0_colour) (p0_gifts := p0_gifts) (p0_has := p0_has) (p0_pastHas := p0_pastHas) (p0_pastStep := p0_pastStep) (p0_pastThings := p0_pastThings) (p0_puts := p0_puts) (p0_takes := p0_takes) (p0_things := p0_things) (p0_wants := p0_wants) hw) (cwV 1 hts gX10_go_X10_goNow rfl rfl rfl (by decide +kernel) ⟨Nat.le_of_ble_eq_true rfl, Nat.le_of_ble_eq_true rfl⟩) ⟨xPre_blind, va_recv hK hP (ci := 10) (q0 := 0) rfl rfl, xPre_at hK hPc hDc n1 n2⟩ rfl rfl hl.1 rfl (lv_room (Nat.le_of_ble_eq_true rfl)) dX10_go_35 ⟨Nat.zero_le _, Nat.zero_le _⟩) (fun u H locs hw hP hD hS => ?_)
        obtain ⟨y10, y11, y12, y13, y14, y15, y16, y17⟩ := u
        try dsimp only at hw
        have hP : va_P (dC, dI) vwCl (wld_X10_go cI cJ cZ h_p0 ad_p0 p0_places p0_steps y12 y11 y10 p0_rowSize p0_ways p0_hasField p0_fieldSize p0_faultNow p0_hasTree p0_treeSize p0_weightCount p0_roundCount p0_setCount p0_closes p0_colour p0_gifts y13 p0_needs y14 y15 y16 p0_puts p0_sort p0_takes y17 p0_wants) H := hP
        have hD : va_D A (wld_X10_go cI cJ cZ h_p0 ad_p0 p0_places p0_steps y12 y11 y10 p0_rowSize p0_ways p0_hasField p0_fieldSize p0_faultNow p0_hasTree p0_treeSize p0_weightCount p0_roundCount p0_setCount p0_closes p0_colour p0_gifts y13 p0_needs y14 y15 y16 p0_puts p0_sort p0_takes y17 p0_wants) := hD
        refine lv_iconst (v := 0) hx hb dX10_go_38 (by decide) ?_
        exact x_iret (w1 := fun (u : (Int32) × (Int32) × (Int32) × (Nat → Int32) × (Nat → Int32) × (Nat → Int32) × (Nat → Int32) × (Nat → Int32)) => (wld_X10_go cI cJ cZ h_p0 ad_p0 p0_places p0_steps (u.2.2.1) (u.2.1) (u.1) p0_rowSize p0_ways p0_hasField p0_fieldSize p0_faultNow p0_hasTree p0_treeSize p0_weightCount p0_roundCount p0_setCount p0_closes p0_colour p0_gifts (u.2.2.2.1) p0_needs (u.2.2.2.2.1) (u.2.2.2.2.2.1) (u.2.2.2.2.2.2.1) p0_puts p0_sort p0_takes (u.2.2.2.2.2.2.2) p0_wants)) hx hb hr hlocks (y10, y11, y12, y13, y14, y15, y16, y17) hw hP hD hS dX10_go_39
      · have hw := hw.2 c9
        refine lv_ldc (v := -2000000003) hx hb hown (hts (.constant RX10 160 (-2000000003)) (by decide +kernel)) dX10_go_30 ?_
        exact x_iret (w1 := fun (u : (Int32) × (Int32) × (Int32) × (Nat → Int32) × (Nat → Int32) × (Nat → Int32) × (Nat → Int32) × (Nat → Int32)) => (wld_X10_go cI cJ cZ h_p0 ad_p0 p0_places p0_steps (u.2.2.1) (u.2.1) (u.1) p0_rowSize p0_ways p0_hasField p0_fieldSize p0_faultNow p0_hasTree p0_treeSize p0_weightCount p0_roundCount p0_setCount p0_closes p0_colour p0_gifts (u.2.2.2.1) p0_needs (u.2.2.2.2.1) (u.2.2.2.2.2.1) (u.2.2.2.2.2.2.1) p0_puts p0_sort p0_takes (u.2.2.2.2.2.2.2) p0_wants)) hx hb hr hlocks (p0_goings, p0_past, p0_pastFirst, p0_has, p0_pastHas, p0_pastStep, p0_pastThings, p0_things) hw hP hD hS dX10_go_32
    · have hw := hw.2 c6
      refine lv_ldc (v := -2000000002) hx hb hown (hts (.constant RX10 171 (-2000000002)) (by decide +kernel)) dX10_go_19 ?_
      exact x_iret (w1 := fun (u : (Int32) × (Int32) × (Int32) × (Nat → Int32) × (Nat → Int32) × (Nat → Int32) × (Nat → Int32) × (Nat → Int32)) => (wld_X10_go cI cJ cZ h_p0 ad_p0 p0_places p0_steps (u.2.2.1) (u.2.1) (u.1) p0_rowSize p0_ways p0_hasField p0_fieldSize p0_faultNow p0_hasTree p0_treeSize p0_weightCount p0_roundCount p0_setCount p0_closes p0_colour p0_gifts (u.2.2.2.1) p0_needs (u.2.2.2.2.1) (u.2.2.2.2.2.1) (u.2.2.2.2.2.2.1) p0_puts p0_sort p0_takes (u.2.2.2.2.2.2.2) p0_wants)) hx hb hr hlocks (p0_goings, p0_past, p0_pastFirst, p0_has, p0_pastHas, p0_pastStep, p0_pastThings, p0_things) hw hP hD hS dX10_go_21
  · have hw := hw.2 c3
    refine lv_ldc (v := -2000000001) hx hb hown (hts (.constant RX10 159 (-2000000001)) (by decide +kernel)) dX10_go_8 ?_
    exact x_iret (w1 := fun (u : (Int32) × (Int32) × (Int32) × (Nat → Int32) × (Nat → Int32) × (Nat → Int32) × (Nat → Int32) × (Nat → Int32)) => (wld_X10_go cI cJ cZ h_p0 ad_p0 p0_places p0_steps (u.2.2.1) (u.2.1) (u.1) p0_rowSize p0_ways p0_hasField p0_fieldSize p0_faultNow p0_hasTree p0_treeSize p0_weightCount p0_roundCount p0_setCount p0_closes p0_colour p0_gifts (u.2.2.2.1) p0_needs (u.2.2.2.2.1) (u.2.2.2.2.2.1) (u.2.2.2.2.2.2.1) p0_puts p0_sort p0_takes (u.2.2.2.2.2.2.2) p0_wants)) hx hb hr hlocks (p0_goings, p0_past, p0_pastFirst, p0_has, p0_pastHas, p0_pastStep, p0_pastThings, p0_things) hw hP hD hS dX10_go_10
abbrev wld_X10_run (cI cJ cZ : ClassId) (h_p0 : Nat) (ad_p0 : Nat → Nat) (p0_places : Int32) (p0_steps : Int32) (p0_pastFirst : Int32) (p0_past : Int32) (p0_goings : Int32) (p0_rowSize : Int32) (p0_ways : Int32) (p0_hasField : Int32) (p0_fieldSize : Int32) (p0_faultNow : Int32) (p0_hasTree : Int32) (p0_treeSize : Int32) (p0_weightCount : Int32) (p0_roundCount : Int32) (p0_setCount : Int32) (p0_closes : Nat → Int32) (p0_colour : Nat → Int32) (p0_gifts : Nat → Int32) (p0_has : Nat → Int32) (p0_needs : Nat → Int32) (p0_pastHas : Nat → Int32) (p0_pastStep : Nat → Int32) (p0_pastThings : Nat → Int32) (p0_puts : Nat → Int32) (p0_sort : Nat → Int32) (p0_takes : Nat → Int32) (p0_things : Nat → Int32) (p0_wants : Nat → Int32) : va_W := [(h_p0, .inr (10, [.int p0_places, .int p0_steps, .ref (ad_p0 2), .ref (ad_p0 3), .ref (ad_p0 4), .ref (ad_p0 5), .ref (ad_p0 6), .ref (ad_p0 7), .ref (ad_p0 8), .ref (ad_p0 9), .ref (ad_p0 10), .ref (ad_p0 11), .ref (ad_p0 12), .ref (ad_p0 13), .ref (ad_p0 14), .int p0_pastFirst, .int p0_past, .int p0_goings, .int p0_rowSize, .ref (ad_p0 19), .ref (ad_p0 20), .int p0_ways, .ref (ad_p0 22), .ref (ad_p0 23), .int p0_hasField, .int p0_fieldSize, .ref (ad_p0 26), .ref (ad_p0 27), .ref (ad_p0 28), .ref (ad_p0 29), .ref (ad_p0 30), .ref (ad_p0 31), .ref (ad_p0 32), .int p0_faultNow, .int p0_hasTree, .int p0_treeSize, .ref (ad_p0 36), .ref (ad_p0 37), .ref (ad_p0 38), .ref (ad_p0 39), .ref (ad_p0 40), .ref (ad_p0 41), .ref (ad_p0 42), .int p0_weightCount, .ref (ad_p0 44), .int p0_roundCount, .ref (ad_p0 46), .int p0_setCount, .ref (ad_p0 48), .ref (ad_p0 49)])), ((ad_p0 7), .inl (cI, 256, .inl p0_closes)), ((ad_p0 2), .inl (cI, 16, .inl p0_colour)), ((ad_p0 9), .inl (cI, 256, .inl p0_gifts)), ((ad_p0 10), .inl (cI, 16, .inl p0_has)), ((ad_p0 6), .inl (cI, 256, .inl p0_needs)), ((ad_p0 13), .inl (cI, 4096, .inl p0_pastHas)), ((ad_p0 12), .inl (cI, 256, .inl p0_pastStep)), ((ad_p0 14), .inl (cI, 81920, .inl p0_pastThings)), ((ad_p0 5), .inl (cI, 256, .inl p0_puts)), ((ad_p0 3), .inl (cI, 16, .inl p0_sort)), ((ad_p0 4), .inl (cI, 256, .inl p0_takes)), ((ad_p0 11), .inl (cI, 320, .inl p0_things)), ((ad_p0 8), .inl (cI, 256, .inl p0_wants))]
abbrev q_X10_run (dC : Nat → ClassId) (dI : Nat → Nat → Nat) (cI cJ cZ : ClassId) (h_p0 : Nat) (ad_p0 : Nat → Nat) (p0_places : Int32) (p0_steps : Int32) (p0_pastFirst : Int32) (p0_past : Int32) (p0_goings : Int32) (p0_rowSize : Int32) (p0_ways : Int32) (p0_hasField : Int32) (p0_fieldSize : Int32) (p0_faultNow : Int32) (p0_hasTree : Int32) (p0_treeSize : Int32) (p0_weightCount : Int32) (p0_roundCount : Int32) (p0_setCount : Int32) (p0_closes : Nat → Int32) (p0_colour : Nat → Int32) (p0_gifts : Nat → Int32) (p0_has : Nat → Int32) (p0_needs : Nat → Int32) (p0_pastHas : Nat → Int32) (p0_pastStep : Nat → Int32) (p0_pastThings : Nat → Int32) (p0_puts : Nat → Int32) (p0_sort : Nat → Int32) (p0_takes : Nat → Int32) (p0_things : Nat → Int32) (p0_wants : Nat → Int32) (post : Int32 → (Int32) → (Int32) → (Int32) → (Nat → Int32) → (Nat → Int32) → (Nat → Int32) → (Nat → Int32) → (Nat → Int32) → Prop) (A : Nat → Prop) : Array Value → State → Outcome → State → Prop := va_Qi (fun r (u : (Int32) × (Int32) × (Int32) × (Nat → Int32) × (Nat → Int32) × (Nat → Int32) × (Nat → Int32) × (Nat → Int32)) => post r (u.1) (u.2.1) (u.2.2.1) (u.2.2.2.1) (u.2.2.2.2.1) (u.2.2.2.2.2.1) (u.2.2.2.2.2.2.1) (u.2.2.2.2.2.2.2)) (fun (u : (Int32) × (Int32) × (Int32) × (Nat → Int32) × (Nat → Int32) × (Nat → Int32) × (Nat → Int32) × (Nat → Int32)) t => xPost (dC, dI) A (wld_X10_run cI cJ cZ h_p0 ad_p0 p0_places p0_steps (u.2.2.1) (u.2.1) (u.1) p0_rowSize p0_ways p0_hasField p0_fieldSize p0_faultNow p0_hasTree p0_treeSize p0_weightCount p0_roundCount p0_setCount p0_closes p0_colour p0_gifts (u.2.2.2.1) p0_needs (u.2.2.2.2.1) (u.2.2.2.2.2.1) (u.2.2.2.2.2.2.1) p0_puts p0_sort p0_takes (u.2.2.2.2.2.2.2) p0_wants) t) A
def w_X10_run_L30b (v1 : Int32) (v2 : Int32) (p0_goings : Int32) (p0_past : Int32) (p0_pastFirst : Int32) (p0_places : Int32) (p0_steps : Int32) (p0_closes : Nat → Int32) (p0_colour : Nat → Int32) (p0_gifts : Nat → Int32) (p0_has : Nat → Int32) (p0_needs : Nat → Int32) (p0_pastHas : Nat → Int32) (p0_pastStep : Nat → Int32) (p0_pastThings : Nat → Int32) (p0_puts : Nat → Int32) (p0_sort : Nat → Int32) (p0_takes : Nat → Int32) (p0_things : Nat → Int32) (p0_wants : Nat → Int32) (post : Int32 → (Int32) → (Int32) → (Int32) → (Nat → Int32) → (Nat → Int32) → (Nat → Int32) → (Nat → Int32) → (Nat → Int32) → Prop) (K : (Int32) → Prop) (rec : (Int32) → Prop) (v4 : Int32) : Prop :=
    (p0_steps ≤ v4 →
      K v4) ∧
    (¬ p0_steps ≤ v4 →
      w_X10_goesNow p0_places p0_steps p0_closes p0_colour p0_has p0_needs p0_sort p0_takes p0_things p0_wants v4 (fun r10 =>
      (¬ r10 = 0 →
        K v4) ∧
      (r10 = 0 →
        ∀ x13 : Int32, x13 = v4 + (1 : Int32) →
        rec x13)))
def w_X10_run_L30 (v1 : Int32) (v2 : Int32) (p0_goings : Int32) (p0_past : Int32) (p0_pastFirst : Int32) (p0_places : Int32) (p0_steps : Int32) (p0_closes : Nat → Int32) (p0_colour : Nat → Int32) (p0_gifts : Nat → Int32) (p0_has : Nat → Int32) (p0_needs : Nat → Int32) (p0_pastHas : Nat → Int32) (p0_pastStep : Nat → Int32) (p0_pastThings : Nat → Int32) (p0_puts : Nat → Int32) (p0_sort : Nat → Int32) (p0_takes : Nat → Int32) (p0_things : Nat → Int32) (p0_wants : Nat → Int32) (post : Int32 → (Int32) → (Int32) → (Int32) → (Nat → Int32) → (Nat → Int32) → (Nat → Int32) → (Nat → Int32) → (Nat → Int32) → Prop) (K : (Int32) → Prop) : Nat → (Int32) → Prop
  | 0, _ => False
  | n + 1, v4 => w_X10_run_L30b v1 v2 p0_goings p0_past p0_pastFirst p0_places p0_steps p0_closes p0_colour p0_gifts p0_has p0_needs p0_pastHas p0_pastStep p0_pastThings p0_puts p0_sort p0_takes p0_things p0_wants post K (w_X10_run_L30 v1 v2 p0_goings p0_past p0_pastFirst p0_places p0_steps p0_closes p0_colour p0_gifts p0_has p0_needs p0_pastHas p0_pastStep p0_pastThings p0_puts p0_sort p0_takes p0_things p0_wants post K n) v4
def w_X10_run_L18b (v1 : Int32) (p0_places : Int32) (p0_steps : Int32) (p0_closes : Nat → Int32) (p0_colour : Nat → Int32) (p0_gifts : Nat → Int32) (p0_needs : Nat → Int32) (p0_puts : Nat → Int32) (p0_sort : Nat → Int32) (p0_takes : Nat → Int32) (p0_wants : Nat → Int32) (post : Int32 → (Int32) → (Int32) → (Int32) → (Nat → Int32) → (Nat → Int32) → (Nat → Int32) → (Nat → Int32) → (Nat → Int32) → Prop) (K : (Int32) → (Int32) → (Int32) → (Int32) → (Int32) → (Nat → Int32) → (Nat → Int32) → (Nat → Int32) → (Nat → Int32) → (Nat → Int32) → Prop) (rec : (Int32) → (Int32) → (Int32) → (Int32) → (Int32) → (Nat → Int32) → (Nat → Int32) → (Nat → Int32) → (Nat → Int32) → (Nat → Int32) → Prop) (v2 : Int32) (v3 : Int32) (p0_goings : Int32) (p0_past : Int32) (p0_pastFirst : Int32) (p0_has : Nat → Int32) (p0_pastHas : Nat → Int32) (p0_pastStep : Nat → Int32) (p0_pastThings : Nat → Int32) (p0_things : Nat → Int32) : Prop :=
    (v3 = 0 →
      K v2 v3 p0_goings p0_past p0_pastFirst p0_has p0_pastHas p0_pastStep p0_pastThings p0_things) ∧
    (¬ v3 = 0 →
      (v1 ≤ v2 →
        K v2 v3 p0_goings p0_past p0_pastFirst p0_has p0_pastHas p0_pastStep p0_pastThings p0_things) ∧
      (¬ v1 ≤ v2 →
        ∃ n : Nat, w_X10_run_L30 v1 v2 p0_goings p0_past p0_pastFirst p0_places p0_steps p0_closes p0_colour p0_gifts p0_has p0_needs p0_pastHas p0_pastStep p0_pastThings p0_puts p0_sort p0_takes p0_things p0_wants post (fun v15 =>
            (p0_steps ≤ v15 →
              ((0 : Int32) = 0 →
                rec v2 (0 : Int32) p0_goings p0_past p0_pastFirst p0_has p0_pastHas p0_pastStep p0_pastThings p0_things) ∧
              (¬ (0 : Int32) = 0 →
                w_X10_goNow p0_goings p0_past p0_pastFirst p0_places p0_colour p0_gifts p0_has p0_pastHas p0_pastStep p0_pastThings p0_puts p0_takes p0_things p0_wants v15 (fun y20 y21 y22 y23 y24 y25 y26 y27 =>
                ∀ x28 : Int32, x28 = v2 + (1 : Int32) →
                rec x28 (0 : Int32) y20 y21 y22 y23 y24 y25 y26 y27))) ∧
            (¬ p0_steps ≤ v15 →
              w_X10_isFull p0_places p0_colour p0_has p0_puts p0_takes v15 (fun r29 =>
              (¬ r29 = 0 →
                ((0 : Int32) = 0 →
                  rec v2 (0 : Int32) p0_goings p0_past p0_pastFirst p0_has p0_pastHas p0_pastStep p0_pastThings p0_things) ∧
                (¬ (0 : Int32) = 0 →
                  w_X10_goNow p0_goings p0_past p0_pastFirst p0_places p0_colour p0_gifts p0_has p0_pastHas p0_pastStep p0_pastThings p0_puts p0_takes p0_things p0_wants v15 (fun y34 y35 y36 y37 y38 y39 y40 y41 =>
                  ∀ x42 : Int32, x42 = v2 + (1 : Int32) →
                  rec x42 (0 : Int32) y34 y35 y36 y37 y38 y39 y40 y41))) ∧
              (r29 = 0 →
                ((1 : Int32) = 0 →
                  rec v2 (1 : Int32) p0_goings p0_past p0_pastFirst p0_has p0_pastHas p0_pastStep p0_pastThings p0_things) ∧
                (¬ (1 : Int32) = 0 →
                  w_X10_goNow p0_goings p0_past p0_pastFirst p0_places p0_colour p0_gifts p0_has p0_pastHas p0_pastStep p0_pastThings p0_puts p0_takes p0_things p0_wants v15 (fun y45 y46 y47 y48 y49 y50 y51 y52 =>
                  ∀ x53 : Int32, x53 = v2 + (1 : Int32) →
                  rec x53 (1 : Int32) y45 y46 y47 y48 y49 y50 y51 y52)))))) n (0 : Int32)))
def w_X10_run_L18 (v1 : Int32) (p0_places : Int32) (p0_steps : Int32) (p0_closes : Nat → Int32) (p0_colour : Nat → Int32) (p0_gifts : Nat → Int32) (p0_needs : Nat → Int32) (p0_puts : Nat → Int32) (p0_sort : Nat → Int32) (p0_takes : Nat → Int32) (p0_wants : Nat → Int32) (post : Int32 → (Int32) → (Int32) → (Int32) → (Nat → Int32) → (Nat → Int32) → (Nat → Int32) → (Nat → Int32) → (Nat → Int32) → Prop) (K : (Int32) → (Int32) → (Int32) → (Int32) → (Int32) → (Nat → Int32) → (Nat → Int32) → (Nat → Int32) → (Nat → Int32) → (Nat → Int32) → Prop) : Nat → (Int32) → (Int32) → (Int32) → (Int32) → (Int32) → (Nat → Int32) → (Nat → Int32) → (Nat → Int32) → (Nat → Int32) → (Nat → Int32) → Prop
  | 0, _, _, _, _, _, _, _, _, _, _ => False
  | n + 1, v2, v3, p0_goings, p0_past, p0_pastFirst, p0_has, p0_pastHas, p0_pastStep, p0_pastThings, p0_things => w_X10_run_L18b v1 p0_places p0_steps p0_closes p0_colour p0_gifts p0_needs p0_puts p0_sort p0_takes p0_wants post K (w_X10_run_L18 v1 p0_places p0_steps p0_closes p0_colour p0_gifts p0_needs p0_puts p0_sort p0_takes p0_wants post K n) v2 v3 p0_goings p0_past p0_pastFirst p0_has p0_pastHas p0_pastStep p0_pastThings p0_things
def w_X10_run (p0_goings : Int32) (p0_past : Int32) (p0_pastFirst : Int32) (p0_places : Int32) (p0_steps : Int32) (p0_closes : Nat → Int32) (p0_colour : Nat → Int32) (p0_gifts : Nat → Int32) (p0_has : Nat → Int32) (p0_needs : Nat → Int32) (p0_pastHas : Nat → Int32) (p0_pastStep : Nat → Int32) (p0_pastThings : Nat → Int32) (p0_puts : Nat → Int32) (p0_sort : Nat → Int32) (p0_takes : Nat → Int32) (p0_things : Nat → Int32) (p0_wants : Nat → Int32) (a1 : Int32) (post : Int32 → (Int32) → (Int32) → (Int32) → (Nat → Int32) → (Nat → Int32) → (Nat → Int32) → (Nat → Int32) → (Nat → Int32) → Prop) : Prop :=
  w_X10_isIn a1 (1 : Int32) (1000 : Int32) (fun r1 =>
  (¬ r1 = 0 →
    ∃ n : Nat, w_X10_run_L18 a1 p0_places p0_steps p0_closes p0_colour p0_gifts p0_needs p0_puts p0_sort p0_takes p0_wants post (fun v55 v56 s57 s58 s59 s60 s61 s62 s63 s64 =>
        (post v55 s57 s58 s59 s60 s61 s62 s63 s64)) n (0 : Int32) (1 : Int32) p0_goings p0_past p0_pastFirst p0_has p0_pastHas p0_pastStep p0_pastThings p0_things) ∧
  (r1 = 0 →
    (post (-2000000001 : Int32) p0_goings p0_past p0_pastFirst p0_has p0_pastHas p0_pastStep p0_pastThings p0_things)))
set_option maxHeartbeats 4000000 in
set_option maxRecDepth 100000 in
theorem c_X10_run_L30 {p : Program} {l : Launch} {e : Env} {s : State} {m : MethodId} {args : Array Value} {below : List Frame} {meth : Method} {c : Code} {dC : Nat → ClassId} {dI : Nat → Nat → Nat} {A : Nat → Prop} {cI cJ cZ : ClassId} {h_p0 : Nat} {ad_p0 : Nat → Nat} {p0_places : Int32} {p0_steps : Int32} {p0_pastFirst : Int32} {p0_past : Int32} {p0_goings : Int32} {p0_rowSize : Int32} {p0_ways : Int32} {p0_hasField : Int32} {p0_fieldSize : Int32} {p0_faultNow : Int32} {p0_hasTree : Int32} {p0_treeSize : Int32} {p0_weightCount : Int32} {p0_roundCount : Int32} {p0_setCount : Int32} {p0_closes : Nat → Int32} {p0_colour : Nat → Int32} {p0_gifts : Nat → Int32} {p0_has : Nat → Int32} {p0_needs : Nat → Int32} {p0_pastHas : Nat → Int32} {p0_pastStep : Nat → Int32} {p0_pastThings : Nat → Int32} {p0_puts : Nat → Int32} {p0_sort : Nat → Int32} {p0_takes : Nat → Int32} {p0_things : Nat → Int32} {p0_wants : Nat → Int32} {v1 : Int32} {v2 : Int32}  {post : Int32 → (Int32) → (Int32) → (Int32) → (Nat → Int32) → (Nat → Int32) → (Nat → Int32) → (Nat → Int32) → (Nat → Int32) → Prop} {K : (Int32) → Prop} (E0 : xEnv p s m args meth c cX10_run (some .int) 5 RX10 wsX10_run (dC, dI) cI cJ cZ A) (hk : ∀ (v4 : Int32) (H : Heap) (locs : List Loc) (ls : Array Slot), K v4 → va_P (dC, dI) vwCl (wld_X10_run cI cJ cZ h_p0 ad_p0 p0_places p0_steps p0_pastFirst p0_past p0_goings p0_rowSize p0_ways p0_hasField p0_fieldSize p0_faultNow p0_hasTree p0_treeSize p0_weightCount p0_roundCount p0_setCount p0_closes p0_colour p0_gifts p0_has p0_needs p0_pastHas p0_pastStep p0_pastThings p0_puts p0_sort p0_takes p0_things p0_wants) H → va_D A (wld_X10_run cI cJ cZ h_p0 ad_p0 p0_places p0_steps p0_pastFirst p0_past p0_goings p0_rowSize p0_ways p0_hasField p0_fieldSize p0_faultNow p0_hasTree p0_treeSize p0_weightCount p0_roundCount p0_setCount p0_closes p0_colour p0_gifts p0_has p0_needs p0_pastHas p0_pastStep p0_pastThings p0_puts p0_sort p0_takes p0_things p0_wants) → va_S A s.heap H locs → lv_has ls 5 [(0, .ref h_p0), (1, .int v1), (2, .int v2), (4, .int v4)] → W p l e ({ frames := 5, cells := 0, slots := 0, locals := 115 }) s m args below meth c H locs 0 0 (MQ below (q_X10_run dC dI cI cJ cZ h_p0 ad_p0 p0_places p0_steps p0_pastFirst p0_past p0_goings p0_rowSize p0_ways p0_hasField p0_fieldSize p0_faultNow p0_hasTree p0_treeSize p0_weightCount p0_roundCount p0_setCount p0_closes p0_colour p0_gifts p0_has p0_needs p0_pastHas p0_pastStep p0_pastThings p0_puts p0_sort p0_takes p0_things p0_wants post A) args s 0 0 A) (F0 m 54 ls [])) : ∀ (n : Nat) (v4 : Int32), w_X10_run_L30 v1 v2 p0_goings p0_past p0_pastFirst p0_places p0_steps p0_closes p0_colour p0_gifts p0_has p0_needs p0_pastHas p0_pastStep p0_pastThings p0_puts p0_sort p0_takes p0_things p0_wants post K n v4 → ∀ (H : Heap) (locs : List Loc) (ls : Array Slot), va_P (dC, dI) vwCl (wld_X10_run cI cJ cZ h_p0 ad_p0 p0_places p0_steps p0_pastFirst p0_past p0_goings p0_rowSize p0_ways p0_hasField p0_fieldSize p0_faultNow p0_hasTree p0_treeSize p0_weightCount p0_roundCount p0_setCount p0_closes p0_colour p0_gifts p0_has p0_needs p0_pastHas p0_pastStep p0_pastThings p0_puts p0_sort p0_takes p0_things p0_wants) H → va_D A (wld_X10_run cI cJ cZ h_p0 ad_p0 p0_places p0_steps p0_pastFirst p0_past p0_goings p0_rowSize p0_ways p0_hasField p0_fieldSize p0_faultNow p0_hasTree p0_treeSize p0_weightCount p0_roundCount p0_setCount p0_closes p0_colour p0_gifts p0_has p0_needs p0_pastHas p0_pastStep p0_pastThings p0_puts p0_sort p0_takes p0_things p0_wants) → va_S A s.heap H locs → lv_has ls 5 [(0, .ref h_p0), (1, .int v1), (2, .int v2), (4, .int v4)] → W p l e ({ frames := 5, cells := 0, slots := 0, locals := 115 }) s m args below meth c H locs 0 0 (MQ below (q_X10_run dC dI cI cJ cZ h_p0 ad_p0 p0_places p0_steps p0_pastFirst p0_past p0_goings p0_rowSize p0_ways p0_hasField p0_fieldSize p0_faultNow p0_hasTree p0_treeSize p0_weightCount p0_roundCount p0_setCount p0_closes p0_colour p0_gifts p0_has p0_needs p0_pastHas p0_pastStep p0_pastThings p0_puts p0_sort p0_takes p0_things p0_wants post A) args s 0 0 A) (F0 m 30 ls []) := by
  obtain ⟨hx, hb, hr, hml, hown, hts, hlocks, hK, hA, n1, n2⟩ := id E0
  have iX10 : ∀ w ∈ u_ws RX10 TX10 50, w ∈ wsX10_run := fun w h => List.mem_cons_of_mem _ (List.mem_append_right _ h)
  intro n
  induction n with
  | zero => intro v4 hw; exact hw.elim
  | succ n ih =>
    intro v4 hw H locs ls hP hD hS hl
    have hw : w_X10_run_L30b v1 v2 p0_goings p0_past p0_pastFirst p0_places p0_steps p0_closes p0_colour p0_gifts p0_has p0_needs p0_pastHas p0_pastStep p0_pastThings p0_puts p0_sort p0_takes p0_things p0_wants post K (w_X10_run_L30 v1 v2 p0_goings p0_past p0_pastFirst p0_places p0_steps p0_closes p0_colour p0_gifts p0_has p0_needs p0_pastHas p0_pastStep p0_pastThings p0_puts p0_sort p0_takes p0_things p0_wants post K n) v4 := hw
    unfold w_X10_run_L30b at hw
    refine lv_iload hx hb dX10_run_30 (lv_at hl 3 rfl) ?_
    refine lv_aload_n hx hb dX10_run_32 rfl (lv_at hl 0 rfl) ?_
    refine va_get (D := (dC, dI)) (ci := 10) (v := .int p0_steps) (C := RX10) (T := TX10) (N := 50) hx hb hts iX10 hown hK hP 0 rfl rfl 1 (by decide) (hts (.fieldLink RX10 130 "NetHouseModel" "steps" "I") (by decide +kernel)) (fun _ h9 => h9) rfl dX10_run_33 ?_
    refine lv_icmp_ge (tgt := 54) hx hb dX10_run_36 (by decide) (fun c8 => ?_) (fun c9 => ?_)
    · have hw := hw.1 c8
      exact hk _ _ _ _ hw hP hD hS (lv_sub hl [0, 1, 2, 3] rfl)
    · have hw := hw.2 c9
      refine lv_aload_n hx hb dX10_run_39 rfl (lv_at hl 0 rfl) ?_
      refine lv_iload hx hb dX10_run_40 (lv_at hl 3 rfl) ?_
      obtain ⟨hPc, hDc⟩ := x_sub (wc := (wld_X10_goesNow cI cJ cZ h_p0 ad_p0 p0_places p0_steps p0_pastFirst p0_past p0_goings p0_rowSize p0_ways p0_hasField p0_fieldSize p0_faultNow p0_hasTree p0_treeSize p0_weightCount p0_roundCount p0_setCount p0_closes p0_colour p0_has p0_needs p0_sort p0_takes p0_things p0_wants)) hP hD [0, 1, 2, 4, 5, 10, 11, 12, 13] (n := 14) rfl rfl (by decide +kernel)
      refine x_calli (ws' := fun (u : Unit) => (wld_X10_run cI cJ cZ h_p0 ad_p0 p0_places p0_steps p0_pastFirst p0_past p0_goings p0_rowSize p0_ways p0_hasField p0_fieldSize p0_faultNow p0_hasTree p0_treeSize p0_weightCount p0_roundCount p0_setCount p0_closes p0_colour p0_gifts p0_has p0_needs p0_pastHas p0_pastStep p0_pastThings p0_puts p0_sort p0_takes p0_things p0_wants)) hP hD hS hA [0, 1, 2, 4, 5, 10, 11, 12, 13] [3, 6, 7, 8, 9] [5, 6, 7, 0, 8, 9, 1, 2, 3, 4, 10, 11, 12, 13] (n := 14) (k := 9) rfl (fun _ => rfl) rfl (by decide +kernel) (fun _ => rfl) (va_runV (As := [.int v4]) (rest := []) ⟨hx, hb, hml, hown, hts⟩ (c_X10_goesNow (l := l) (dC := dC) (dI := dI) (cI := cI) (cJ := cJ) (cZ := cZ) (sz := H.size) (h_p0 := h_p0) (ad_p0 := ad_p0) (p0_places := p0_places) (p0_steps := p0_steps) (p0_pastFirst := p0_pastFirst) (p0_past := p0_past) (p0_goings := p0_goings) (p0_rowSize := p0_rowSize) (p0_ways := p0_ways) (p0_hasField := p0_hasField) (p0_fieldSize := p0_fieldSize) (p0_faultNow := p0_faultNow) (p0_hasTree := p0_hasTree) (p0_treeSize := p0_treeSize) (p0_weightCount := p0_weightCount) (p0_roundCount := p0_roundCount) (p0_setCount := p0_setCount) (p0_closes := p0_closes) (p0_colour := p0_colour) (p0_has := p0_has) (p0_needs := p0_needs) (p0_sort := p0_sort) (p0_takes := p0_takes) (p0_things := p0_things) (p0_wants := p0_wants) hw) (cwV 1 hts gX10_run_X10_goesNow rfl rfl rfl (by decide +kernel) ⟨Nat.le_of_ble_eq_true rfl, Nat.le_of_ble_eq_true rfl⟩) ⟨xPre_blind, va_recv hK hP (ci := 10) (q0 := 0) rfl rfl, xPre_at hK hPc hDc n1 n2⟩ rfl rfl hl.1 rfl (lv_room (Nat.le_of_ble_eq_true rfl)) dX10_run_42 ⟨Nat.zero_le _, Nat.zero_le _⟩) (fun r10 u H locs hw hP hD hS => ?_)
      try dsimp only at hw
      have hP : va_P (dC, dI) vwCl (wld_X10_run cI cJ cZ h_p0 ad_p0 p0_places p0_steps p0_pastFirst p0_past p0_goings p0_rowSize p0_ways p0_hasField p0_fieldSize p0_faultNow p0_hasTree p0_treeSize p0_weightCount p0_roundCount p0_setCount p0_closes p0_colour p0_gifts p0_has p0_needs p0_pastHas p0_pastStep p0_pastThings p0_puts p0_sort p0_takes p0_things p0_wants) H := hP
      have hD : va_D A (wld_X10_run cI cJ cZ h_p0 ad_p0 p0_places p0_steps p0_pastFirst p0_past p0_goings p0_rowSize p0_ways p0_hasField p0_fieldSize p0_faultNow p0_hasTree p0_treeSize p0_weightCount p0_roundCount p0_setCount p0_closes p0_colour p0_gifts p0_has p0_needs p0_pastHas p0_pastStep p0_pastThings p0_puts p0_sort p0_takes p0_things p0_wants) := hD
      refine lv_if_ne (tgt := 54) hx hb dX10_run_45 (by decide) (fun c11 => ?_) (fun c12 => ?_)
      · have hw := hw.1 c11
        exact hk _ _ _ _ hw hP hD hS (lv_sub hl [0, 1, 2, 3] rfl)
      · have hw := hw.2 c12
        obtain ⟨x13, ex13⟩ : ∃ y : Int32, y = v4 + (1 : Int32) := ⟨_, rfl⟩
        have hw := hw x13 ex13
        refine lv_iinc (v := x13) (lv' := [(4, .int x13), (0, .ref h_p0), (1, .int v1), (2, .int v2)]) hx hb dX10_run_48 hl (k := 3) rfl (by rw [ex13]; rfl) (by decide) rfl (fun ls hl => ?_)
        refine lv_goto (tgt := 30) hx hb dX10_run_51 (by decide) ?_
        exact ih _ hw _ _ _ hP hD hS (lv_sub hl [1, 2, 3, 0] rfl)
set_option maxHeartbeats 4000000 in
set_option maxRecDepth 100000 in
theorem c_X10_run_L18 {p : Program} {l : Launch} {e : Env} {s : State} {m : MethodId} {args : Array Value} {below : List Frame} {meth : Method} {c : Code} {dC : Nat → ClassId} {dI : Nat → Nat → Nat} {A : Nat → Prop} {cI cJ cZ : ClassId} {h_p0 : Nat} {ad_p0 : Nat → Nat} {p0_places : Int32} {p0_steps : Int32} {p0_rowSize : Int32} {p0_ways : Int32} {p0_hasField : Int32} {p0_fieldSize : Int32} {p0_faultNow : Int32} {p0_hasTree : Int32} {p0_treeSize : Int32} {p0_weightCount : Int32} {p0_roundCount : Int32} {p0_setCount : Int32} {p0_closes : Nat → Int32} {p0_colour : Nat → Int32} {p0_gifts : Nat → Int32} {p0_needs : Nat → Int32} {p0_puts : Nat → Int32} {p0_sort : Nat → Int32} {p0_takes : Nat → Int32} {p0_wants : Nat → Int32} {v1 : Int32} {z_p0_goings : Int32} {z_p0_past : Int32} {z_p0_pastFirst : Int32} {z_p0_has : Nat → Int32} {z_p0_pastHas : Nat → Int32} {z_p0_pastStep : Nat → Int32} {z_p0_pastThings : Nat → Int32} {z_p0_things : Nat → Int32} {post : Int32 → (Int32) → (Int32) → (Int32) → (Nat → Int32) → (Nat → Int32) → (Nat → Int32) → (Nat → Int32) → (Nat → Int32) → Prop} {K : (Int32) → (Int32) → (Int32) → (Int32) → (Int32) → (Nat → Int32) → (Nat → Int32) → (Nat → Int32) → (Nat → Int32) → (Nat → Int32) → Prop} (E0 : xEnv p s m args meth c cX10_run (some .int) 5 RX10 wsX10_run (dC, dI) cI cJ cZ A) (hk : ∀ (v2 : Int32) (v3 : Int32) (p0_goings : Int32) (p0_past : Int32) (p0_pastFirst : Int32) (p0_has : Nat → Int32) (p0_pastHas : Nat → Int32) (p0_pastStep : Nat → Int32) (p0_pastThings : Nat → Int32) (p0_things : Nat → Int32) (H : Heap) (locs : List Loc) (ls : Array Slot), K v2 v3 p0_goings p0_past p0_pastFirst p0_has p0_pastHas p0_pastStep p0_pastThings p0_things → va_P (dC, dI) vwCl (wld_X10_run cI cJ cZ h_p0 ad_p0 p0_places p0_steps p0_pastFirst p0_past p0_goings p0_rowSize p0_ways p0_hasField p0_fieldSize p0_faultNow p0_hasTree p0_treeSize p0_weightCount p0_roundCount p0_setCount p0_closes p0_colour p0_gifts p0_has p0_needs p0_pastHas p0_pastStep p0_pastThings p0_puts p0_sort p0_takes p0_things p0_wants) H → va_D A (wld_X10_run cI cJ cZ h_p0 ad_p0 p0_places p0_steps p0_pastFirst p0_past p0_goings p0_rowSize p0_ways p0_hasField p0_fieldSize p0_faultNow p0_hasTree p0_treeSize p0_weightCount p0_roundCount p0_setCount p0_closes p0_colour p0_gifts p0_has p0_needs p0_pastHas p0_pastStep p0_pastThings p0_puts p0_sort p0_takes p0_things p0_wants) → va_S A s.heap H locs → lv_has ls 5 [(2, .int v2)] → W p l e ({ frames := 5, cells := 0, slots := 0, locals := 115 }) s m args below meth c H locs 0 0 (MQ below (q_X10_run dC dI cI cJ cZ h_p0 ad_p0 p0_places p0_steps z_p0_pastFirst z_p0_past z_p0_goings p0_rowSize p0_ways p0_hasField p0_fieldSize p0_faultNow p0_hasTree p0_treeSize p0_weightCount p0_roundCount p0_setCount p0_closes p0_colour p0_gifts z_p0_has p0_needs z_p0_pastHas z_p0_pastStep z_p0_pastThings p0_puts p0_sort p0_takes z_p0_things p0_wants post A) args s 0 0 A) (F0 m 94 ls [])) : ∀ (n : Nat) (v2 : Int32) (v3 : Int32) (p0_goings : Int32) (p0_past : Int32) (p0_pastFirst : Int32) (p0_has : Nat → Int32) (p0_pastHas : Nat → Int32) (p0_pastStep : Nat → Int32) (p0_pastThings : Nat → Int32) (p0_things : Nat → Int32), w_X10_run_L18 v1 p0_places p0_steps p0_closes p0_colour p0_gifts p0_needs p0_puts p0_sort p0_takes p0_wants post K n v2 v3 p0_goings p0_past p0_pastFirst p0_has p0_pastHas p0_pastStep p0_pastThings p0_things → ∀ (H : Heap) (locs : List Loc) (ls : Array Slot), va_P (dC, dI) vwCl (wld_X10_run cI cJ cZ h_p0 ad_p0 p0_places p0_steps p0_pastFirst p0_past p0_goings p0_rowSize p0_ways p0_hasField p0_fieldSize p0_faultNow p0_hasTree p0_treeSize p0_weightCount p0_roundCount p0_setCount p0_closes p0_colour p0_gifts p0_has p0_needs p0_pastHas p0_pastStep p0_pastThings p0_puts p0_sort p0_takes p0_things p0_wants) H → va_D A (wld_X10_run cI cJ cZ h_p0 ad_p0 p0_places p0_steps p0_pastFirst p0_past p0_goings p0_rowSize p0_ways p0_hasField p0_fieldSize p0_faultNow p0_hasTree p0_treeSize p0_weightCount p0_roundCount p0_setCount p0_closes p0_colour p0_gifts p0_has p0_needs p0_pastHas p0_pastStep p0_pastThings p0_puts p0_sort p0_takes p0_things p0_wants) → va_S A s.heap H locs → lv_has ls 5 [(0, .ref h_p0), (1, .int v1), (2, .int v2), (3, .int v3)] → W p l e ({ frames := 5, cells := 0, slots := 0, locals := 115 }) s m args below meth c H locs 0 0 (MQ below (q_X10_run dC dI cI cJ cZ h_p0 ad_p0 p0_places p0_steps z_p0_pastFirst z_p0_past z_p0_goings p0_rowSize p0_ways p0_hasField p0_fieldSize p0_faultNow p0_hasTree p0_treeSize p0_weightCount p0_roundCount p0_setCount p0_closes p0_colour p0_gifts z_p0_has p0_needs z_p0_pastHas z_p0_pastStep z_p0_pastThings p0_puts p0_sort p0_takes z_p0_things p0_wants post A) args s 0 0 A) (F0 m 18 ls []) := by
  obtain ⟨hx, hb, hr, hml, hown, hts, hlocks, hK, hA, n1, n2⟩ := id E0
  have iX10 : ∀ w ∈ u_ws RX10 TX10 50, w ∈ wsX10_run := fun w h => List.mem_cons_of_mem _ (List.mem_append_right _ h)
  intro n
  induction n with
  | zero => intro v2 v3 p0_goings p0_past p0_pastFirst p0_has p0_pastHas p0_pastStep p0_pastThings p0_things hw; exact hw.elim
  | succ n ih =>
    intro v2 v3 p0_goings p0_past p0_pastFirst p0_has p0_pastHas p0_pastStep p0_pastThings p0_things hw H locs ls hP hD hS hl
    have hw : w_X10_run_L18b v1 p0_places p0_steps p0_closes p0_colour p0_gifts p0_needs p0_puts p0_sort p0_takes p0_wants post K (w_X10_run_L18 v1 p0_places p0_steps p0_closes p0_colour p0_gifts p0_needs p0_puts p0_sort p0_takes p0_wants post K n) v2 v3 p0_goings p0_past p0_pastFirst p0_has p0_pastHas p0_pastStep p0_pastThings p0_things := hw
    unfold w_X10_run_L18b at hw
    refine lv_iload_n hx hb dX10_run_18 rfl (lv_at hl 3 rfl) ?_
    refine lv_if_eq (tgt := 94) hx hb dX10_run_19 (by decide) (fun c4 => ?_) (fun c5 => ?_)
    · have hw := hw.1 c4
      exact hk _ _ _ _ _ _ _ _ _ _ _ _ _ hw hP hD hS (lv_sub hl [2] rfl)
    · have hw := hw.2 c5
      refine lv_iload_n hx hb dX10_run_22 rfl (lv_at hl 2 rfl) ?_
      refine lv_iload_n hx hb dX10_run_23 rfl (lv_at hl 1 rfl) ?_
      refine lv_icmp_ge (tgt := 94) hx hb dX10_run_24 (by decide) (fun c6 => ?_) (fun c7 => ?_)
      · have hw := hw.1 c6
        exact hk _ _ _ _ _ _ _ _ _ _ _ _ _ hw hP hD hS (lv_sub hl [2] rfl)
      · have hw := hw.2 c7
        refine lv_iconst (v := 0) hx hb dX10_run_27 (by decide) ?_
        refine lv_istore (lv' := [(4, .int (0 : Int32)), (0, .ref h_p0), (1, .int v1), (2, .int v2), (3, .int v3)]) hx hb dX10_run_28 hl (by decide) rfl (fun ls hl => ?_)
        obtain ⟨n14, hw⟩ := hw
        refine c_X10_run_L30 (l := l)  E0 ?_ n14 _ hw _ _ _ hP hD hS (lv_sub hl [1, 2, 3, 0] rfl)
        · intro v15 H locs ls hw hP hD hS hl
          have hP : va_P (dC, dI) vwCl (wld_X10_run cI cJ cZ h_p0 ad_p0 p0_places p0_steps p0_pastFirst p0_past p0_goings p0_rowSize p0_ways p0_hasField p0_fieldSize p0_faultNow p0_hasTree p0_treeSize p0_weightCount p0_roundCount p0_setCount p0_closes p0_colour p0_gifts p0_has p0_needs p0_pastHas p0_pastStep p0_pastThings p0_puts p0_sort p0_takes p0_things p0_wants) H := hP
          have hD : va_D A (wld_X10_run cI cJ cZ h_p0 ad_p0 p0_places p0_steps p0_pastFirst p0_past p0_goings p0_rowSize p0_ways p0_hasField p0_fieldSize p0_faultNow p0_hasTree p0_treeSize p0_weightCount p0_roundCount p0_setCount p0_closes p0_colour p0_gifts p0_has p0_needs p0_pastHas p0_pastStep p0_pastThings p0_puts p0_sort p0_takes p0_things p0_wants) := hD
          refine lv_iload hx hb dX10_run_54 (lv_at hl 3 rfl) ?_
          refine lv_aload_n hx hb dX10_run_56 rfl (lv_at hl 0 rfl) ?_
          refine va_get (D := (dC, dI)) (ci := 10) (v := .int p0_steps) (C := RX10) (T := TX10) (N := 50) hx hb hts iX10 hown hK hP 0 rfl rfl 1 (by decide) (hts (.fieldLink RX10 130 "NetHouseModel" "steps" "I") (by decide +kernel)) (fun _ h9 => h9) rfl dX10_run_57 ?_
          refine lv_icmp_ge (tgt := 76) hx hb dX10_run_60 (by decide) (fun c16 => ?_) (fun c17 => ?_)
          · have hw := hw.1 c16
            refine lv_iconst (v := 0) hx hb dX10_run_76 (by decide) ?_
            refine lv_istore_n (lv' := [(3, .int (0 : Int32)), (0, .ref h_p0), (1, .int v1), (2, .int v2), (4, .int v15)]) hx hb dX10_run_77 rfl hl (by decide) rfl (fun ls hl => ?_)
            refine lv_iload_n hx hb dX10_run_78 rfl (lv_at hl 0 rfl) ?_
            refine lv_if_eq (tgt := 91) hx hb dX10_run_79 (by decide) (fun c18 => ?_) (fun c19 => ?_)
            · have hw := hw.1 c18
              refine lv_goto (tgt := 18) hx hb dX10_run_91 (by decide) ?_
              exact ih _ _ _ _ _ _ _ _ _ _ hw _ _ _ hP hD hS (lv_sub hl [1, 2, 3, 0] rfl)
            · have hw := hw.2 c19
              refine lv_aload_n hx hb dX10_run_82 rfl (lv_at hl 1 rfl) ?_
              refine lv_iload hx hb dX10_run_83 (lv_at hl 4 rfl) ?_
              obtain ⟨hPc, hDc⟩ := x_sub (wc := (wld_X10_goNow cI cJ cZ h_p0 ad_p0 p0_places p0_steps p0_pastFirst p0_past p0_goings p0_rowSize p0_ways p0_hasField p0_fieldSize p0_faultNow p0_hasTree p0_treeSize p0_weightCount p0_roundCount p0_setCount p0_colour p0_gifts p0_has p0_pastHas p0_pastStep p0_pastThings p0_puts p0_takes p0_things p0_wants)) hP hD [0, 2, 3, 4, 6, 7, 8, 9, 11, 12, 13] (n := 14) rfl rfl (by decide +kernel)
              refine x_callv (ws' := fun (u : (Int32) × (Int32) × (Int32) × (Nat → Int32) × (Nat → Int32) × (Nat → Int32) × (Nat → Int32) × (Nat → Int32)) => (wld_X10_run cI cJ cZ h_p0 ad_p0 p0_places p0_steps (u.2.2.1) (u.2.1) (u.1) p0_rowSize p0_ways p0_hasField p0_fieldSize p0_faultNow p0_hasTree p0_treeSize p0_weightCount p0_roundCount p0_setCount p0_closes p0_colour p0_gifts (u.2.2.2.1) p0_needs (u.2.2.2.2.1) (u.2.2.2.2.2.1) (u.2.2.2.2.2.2.1) p0_puts p0_sort p0_takes (u.2.2.2.2.2.2.2) p0_wants)) hP hD hS hA [0, 2, 3, 4, 6, 7, 8, 9, 11, 12, 13] [1, 5, 10] [3, 0, 4, 5, 6, 1, 7, 8, 9, 10, 2, 11, 12, 13] (n := 14) (k := 11) rfl (fun _ => rfl) rfl (by decide +kernel) (fun _ => rfl) (va_runV (As := [.int v15]) (rest := []) ⟨hx, hb, hml, hown, hts⟩ (c_X10_goNow (l := l) (dC := dC) (dI := dI) (cI := cI) (cJ := cJ) (cZ := cZ) (sz := H.size) (h_p0 := h_p0) (ad_p0 := ad_p0) (p0_places := p0_places) (p0_steps := p0_steps) (p0_pastFirst := p0_pastFirst) (p0_past := p0_past) (p0_goings := p0_goings) (p0_rowSize := p0_rowSize) (p0_ways := p0_ways) (p0_hasField := p0_hasField) (p0_fieldSize := p0_fieldSize) (p0_faultNow := p0_faultNow) (p0_hasTree := p0_hasTree) (p0_treeSize := p0_treeSize) (p0_weightCount := p0_weightCount) (p0_roundCount := p0_roundCount) (p0_setCount := p0_setCount) (p0_colour := p0_colour) (p0_gifts := p0_gifts) (p0_has := p0_has) (p0_pastHas := p0_pastHas) (p0_pastStep := p0_pastStep) (p0_pastThings := p0_pastThings) (p0_puts := p0_puts) (p0_takes := p0_takes) (p0_things := p0_things) (p0_wants := p0_wants) hw) (cwV 1 hts gX10_run_X10_goNow rfl rfl rfl (by decide +kernel) ⟨Nat.le_of_ble_eq_true rfl, Nat.le_of_ble_eq_true rfl⟩) ⟨xPre_blind, va_recv hK hP (ci := 10) (q0 := 0) rfl rfl, xPre_at hK hPc hDc n1 n2⟩ rfl rfl hl.1 rfl (lv_room (Nat.le_of_ble_eq_true rfl)) dX10_run_85 ⟨Nat.zero_le _, Nat.zero_le _⟩) (fun u H locs hw hP hD hS => ?_)
              obtain ⟨y20, y21, y22, y23, y24, y25, y26, y27⟩ := u
              try dsimp only at hw
              have hP : va_P (dC, dI) vwCl (wld_X10_run cI cJ cZ h_p0 ad_p0 p0_places p0_steps y22 y21 y20 p0_rowSize p0_ways p0_hasField p0_fieldSize p0_faultNow p0_hasTree p0_treeSize p0_weightCount p0_roundCount p0_setCount p0_closes p0_colour p0_gifts y23 p0_needs y24 y25 y26 p0_puts p0_sort p0_takes y27 p0_wants) H := hP
              have hD : va_D A (wld_X10_run cI cJ cZ h_p0 ad_p0 p0_places p0_steps y22 y21 y20 p0_rowSize p0_ways p0_hasField p0_fieldSize p0_faultNow p0_hasTree p0_treeSize p0_weightCount p0_roundCount p0_setCount p0_closes p0_colour p0_gifts y23 p0_needs y24 y25 y26 p0_puts p0_sort p0_takes y27 p0_wants) := hD
              obtain ⟨x28, ex28⟩ : ∃ y : Int32, y = v2 + (1 : Int32) := ⟨_, rfl⟩
              have hw := hw x28 ex28
              refine lv_iinc (v := x28) (lv' := [(2, .int x28), (3, .int (0 : Int32)), (0, .ref h_p0), (1, .int v1), (4, .int v15)]) hx hb dX10_run_88 hl (k := 3) rfl (by rw [ex28]; rfl) (by decide) rfl (fun ls hl => ?_)
              refine lv_goto (tgt := 18) hx hb dX10_run_91 (by decide) ?_
              exact ih _ _ _ _ _ _ _ _ _ _ hw _ _ _ hP hD hS (lv_sub hl [2, 3, 0, 1] rfl)
          · have hw := hw.2 c17
            refine lv_aload_n hx hb dX10_run_63 rfl (lv_at hl 0 rfl) ?_
            refine lv_iload hx hb dX10_run_64 (lv_at hl 3 rfl) ?_
            obtain ⟨hPc, hDc⟩ := x_sub (wc := (wld_X10_isFull cI cJ cZ h_p0 ad_p0 p0_places p0_steps p0_pastFirst p0_past p0_goings p0_rowSize p0_ways p0_hasField p0_fieldSize p0_faultNow p0_hasTree p0_treeSize p0_weightCount p0_roundCount p0_setCount p0_colour p0_has p0_puts p0_takes)) hP hD [0, 2, 4, 9, 11] (n := 14) rfl rfl (by decide +kernel)
            refine x_calli (ws' := fun (u : Unit) => (wld_X10_run cI cJ cZ h_p0 ad_p0 p0_places p0_steps p0_pastFirst p0_past p0_goings p0_rowSize p0_ways p0_hasField p0_fieldSize p0_faultNow p0_hasTree p0_treeSize p0_weightCount p0_roundCount p0_setCount p0_closes p0_colour p0_gifts p0_has p0_needs p0_pastHas p0_pastStep p0_pastThings p0_puts p0_sort p0_takes p0_things p0_wants)) hP hD hS hA [0, 2, 4, 9, 11] [1, 3, 5, 6, 7, 8, 10, 12, 13] [9, 0, 10, 1, 11, 2, 3, 4, 5, 12, 6, 13, 7, 8] (n := 14) (k := 5) rfl (fun _ => rfl) rfl (by decide +kernel) (fun _ => rfl) (va_runV (As := [.int v15]) (rest := []) ⟨hx, hb, hml, hown, hts⟩ (c_X10_isFull (l := l) (dC := dC) (dI := dI) (cI := cI) (cJ := cJ) (cZ := cZ) (sz := H.size) (h_p0 := h_p0) (ad_p0 := ad_p0) (p0_places := p0_places) (p0_steps := p0_steps) (p0_pastFirst := p0_pastFirst) (p0_past := p0_past) (p0_goings := p0_goings) (p0_rowSize := p0_rowSize) (p0_ways := p0_ways) (p0_hasField := p0_hasField) (p0_fieldSize := p0_fieldSize) (p0_faultNow := p0_faultNow) (p0_hasTree := p0_hasTree) (p0_treeSize := p0_treeSize) (p0_weightCount := p0_weightCount) (p0_roundCount := p0_roundCount) (p0_setCount := p0_setCount) (p0_colour := p0_colour) (p0_has := p0_has) (p0_puts := p0_puts) (p0_takes := p0_takes) hw) (cwV 1 hts gX10_run_X10_isFull rfl rfl rfl (by decide +kernel) ⟨Nat.le_of_ble_eq_true rfl, Nat.le_of_ble_eq_true rfl⟩) ⟨xPre_blind, va_recv hK hP (ci := 10) (q0 := 0) rfl rfl, xPre_at hK hPc hDc n1 n2⟩ rfl rfl hl.1 rfl (lv_room (Nat.le_of_ble_eq_true rfl)) dX10_run_66 ⟨Nat.zero_le _, Nat.zero_le _⟩) (fun r29 u H locs hw hP hD hS => ?_)
            try dsimp only at hw
            have hP : va_P (dC, dI) vwCl (wld_X10_run cI cJ cZ h_p0 ad_p0 p0_places p0_steps p0_pastFirst p0_past p0_goings p0_rowSize p0_ways p0_hasField p0_fieldSize p0_faultNow p0_hasTree p0_treeSize p0_weightCount p0_roundCount p0_setCount p0_closes p0_colour p0_gifts p0_has p0_needs p0_pastHas p0_pastStep p0_pastThings p0_puts p0_sort p0_takes p0_things p0_wants) H := hP
            have hD : va_D A (wld_X10_run cI cJ cZ h_p0 ad_p0 p0_places p0_steps p0_pastFirst p0_past p0_goings p0_rowSize p0_ways p0_hasField p0_fieldSize p0_faultNow p0_hasTree p0_treeSize p0_weightCount p0_roundCount p0_setCount p0_closes p0_colour p0_gifts p0_has p0_needs p0_pastHas p0_pastStep p0_pastThings p0_puts p0_sort p0_takes p0_things p0_wants) := hD
            refine lv_if_ne (tgt := 76) hx hb dX10_run_69 (by decide) (fun c30 => ?_) (fun c31 => ?_)
            · have hw := hw.1 c30
              refine lv_iconst (v := 0) hx hb dX10_run_76 (by decide) ?_
              refine lv_istore_n (lv' := [(3, .int (0 : Int32)), (0, .ref h_p0), (1, .int v1), (2, .int v2), (4, .int v15)]) hx hb dX10_run_77 rfl hl (by decide) rfl (fun ls hl => ?_)
              refine lv_iload_n hx hb dX10_run_78 rfl (lv_at hl 0 rfl) ?_
              refine lv_if_eq (tgt := 91) hx hb dX10_run_79 (by decide) (fun c32 => ?_) (fun c33 => ?_)
              · have hw := hw.1 c32
                refine lv_goto (tgt := 18) hx hb dX10_run_91 (by decide) ?_
                exact ih _ _ _ _ _ _ _ _ _ _ hw _ _ _ hP hD hS (lv_sub hl [1, 2, 3, 0] rfl)
              · have hw := hw.2 c33
                refine lv_aload_n hx hb dX10_run_82 rfl (lv_at hl 1 rfl) ?_
                refine lv_iload hx hb dX10_run_83 (lv_at hl 4 rfl) ?_
                obtain ⟨hPc, hDc⟩ := x_sub (wc := (wld_X10_goNow cI cJ cZ h_p0 ad_p0 p0_places p0_steps p0_pastFirst p0_past p0_goings p0_rowSize p0_ways p0_hasField p0_fieldSize p0_faultNow p0_hasTree p0_treeSize p0_weightCount p0_roundCount p0_setCount p0_colour p0_gifts p0_has p0_pastHas p0_pastStep p0_pastThings p0_puts p0_takes p0_things p0_wants)) hP hD [0, 2, 3, 4, 6, 7, 8, 9, 11, 12, 13] (n := 14) rfl rfl (by decide +kernel)
                refine x_callv (ws' := fun (u : (Int32) × (Int32) × (Int32) × (Nat → Int32) × (Nat → Int32) × (Nat → Int32) × (Nat → Int32) × (Nat → Int32)) => (wld_X10_run cI cJ cZ h_p0 ad_p0 p0_places p0_steps (u.2.2.1) (u.2.1) (u.1) p0_rowSize p0_ways p0_hasField p0_fieldSize p0_faultNow p0_hasTree p0_treeSize p0_weightCount p0_roundCount p0_setCount p0_closes p0_colour p0_gifts (u.2.2.2.1) p0_needs (u.2.2.2.2.1) (u.2.2.2.2.2.1) (u.2.2.2.2.2.2.1) p0_puts p0_sort p0_takes (u.2.2.2.2.2.2.2) p0_wants)) hP hD hS hA [0, 2, 3, 4, 6, 7, 8, 9, 11, 12, 13] [1, 5, 10] [3, 0, 4, 5, 6, 1, 7, 8, 9, 10, 2, 11, 12, 13] (n := 14) (k := 11) rfl (fun _ => rfl) rfl (by decide +kernel) (fun _ => rfl) (va_runV (As := [.int v15]) (rest := []) ⟨hx, hb, hml, hown, hts⟩ (c_X10_goNow (l := l) (dC := dC) (dI := dI) (cI := cI) (cJ := cJ) (cZ := cZ) (sz := H.size) (h_p0 := h_p0) (ad_p0 := ad_p0) (p0_places := p0_places) (p0_steps := p0_steps) (p0_pastFirst := p0_pastFirst) (p0_past := p0_past) (p0_goings := p0_goings) (p0_rowSize := p0_rowSize) (p0_ways := p0_ways) (p0_hasField := p0_hasField) (p0_fieldSize := p0_fieldSize) (p0_faultNow := p0_faultNow) (p0_hasTree := p0_hasTree) (p0_treeSize := p0_treeSize) (p0_weightCount := p0_weightCount) (p0_roundCount := p0_roundCount) (p0_setCount := p0_setCount) (p0_colour := p0_colour) (p0_gifts := p0_gifts) (p0_has := p0_has) (p0_pastHas := p0_pastHas) (p0_pastStep := p0_pastStep) (p0_pastThings := p0_pastThings) (p0_puts := p0_puts) (p0_takes := p0_takes) (p0_things := p0_things) (p0_wants := p0_wants) hw) (cwV 1 hts gX10_run_X10_goNow rfl rfl rfl (by decide +kernel) ⟨Nat.le_of_ble_eq_true rfl, Nat.le_of_ble_eq_true rfl⟩) ⟨xPre_blind, va_recv hK hP (ci := 10) (q0 := 0) rfl rfl, xPre_at hK hPc hDc n1 n2⟩ rfl rfl hl.1 rfl (lv_room (Nat.le_of_ble_eq_true rfl)) dX10_run_85 ⟨Nat.zero_le _, Nat.zero_le _⟩) (fun u H locs hw hP hD hS => ?_)
                obtain ⟨y34, y35, y36, y37, y38, y39, y40, y41⟩ := u
                try dsimp only at hw
                have hP : va_P (dC, dI) vwCl (wld_X10_run cI cJ cZ h_p0 ad_p0 p0_places p0_steps y36 y35 y34 p0_rowSize p0_ways p0_hasField p0_fieldSize p0_faultNow p0_hasTree p0_treeSize p0_weightCount p0_roundCount p0_setCount p0_closes p0_colour p0_gifts y37 p0_needs y38 y39 y40 p0_puts p0_sort p0_takes y41 p0_wants) H := hP
                have hD : va_D A (wld_X10_run cI cJ cZ h_p0 ad_p0 p0_places p0_steps y36 y35 y34 p0_rowSize p0_ways p0_hasField p0_fieldSize p0_faultNow p0_hasTree p0_treeSize p0_weightCount p0_roundCount p0_setCount p0_closes p0_colour p0_gifts y37 p0_needs y38 y39 y40 p0_puts p0_sort p0_takes y41 p0_wants) := hD
                obtain ⟨x42, ex42⟩ : ∃ y : Int32, y = v2 + (1 : Int32) := ⟨_, rfl⟩
                have hw := hw x42 ex42
                refine lv_iinc (v := x42) (lv' := [(2, .int x42), (3, .int (0 : Int32)), (0, .ref h_p0), (1, .int v1), (4, .int v15)]) hx hb dX10_run_88 hl (k := 3) rfl (by rw [ex42]; rfl) (by decide) rfl (fun ls hl => ?_)
                refine lv_goto (tgt := 18) hx hb dX10_run_91 (by decide) ?_
                exact ih _ _ _ _ _ _ _ _ _ _ hw _ _ _ hP hD hS (lv_sub hl [2, 3, 0, 1] rfl)
            · have hw := hw.2 c31
              refine lv_iconst (v := 1) hx hb dX10_run_72 (by decide) ?_
              refine lv_goto (tgt := 77) hx hb dX10_run_73 (by decide) ?_
              refine lv_istore_n (lv' := [(3, .int (1 : Int32)), (0, .ref h_p0), (1, .int v1), (2, .int v2), (4, .int v15)]) hx hb dX10_run_77 rfl hl (by decide) rfl (fun ls hl => ?_)
              refine lv_iload_n hx hb dX10_run_78 rfl (lv_at hl 0 rfl) ?_
              refine lv_if_eq (tgt := 91) hx hb dX10_run_79 (by decide) (fun c43 => ?_) (fun c44 => ?_)
              · have hw := hw.1 c43
                refine lv_goto (tgt := 18) hx hb dX10_run_91 (by decide) ?_
                exact ih _ _ _ _ _ _ _ _ _ _ hw _ _ _ hP hD hS (lv_sub hl [1, 2, 3, 0] rfl)
              · have hw := hw.2 c44
                refine lv_aload_n hx hb dX10_run_82 rfl (lv_at hl 1 rfl) ?_
                refine lv_iload hx hb dX10_run_83 (lv_at hl 4 rfl) ?_
                obtain ⟨hPc, hDc⟩ := x_sub (wc := (wld_X10_goNow cI cJ cZ h_p0 ad_p0 p0_places p0_steps p0_pastFirst p0_past p0_goings p0_rowSize p0_ways p0_hasField p0_fieldSize p0_faultNow p0_hasTree p0_treeSize p0_weightCount p0_roundCount p0_setCount p0_colour p0_gifts p0_has p0_pastHas p0_pastStep p0_pastThings p0_puts p0_takes p0_things p0_wants)) hP hD [0, 2, 3, 4, 6, 7, 8, 9, 11, 12, 13] (n := 14) rfl rfl (by decide +kernel)
                refine x_callv (ws' := fun (u : (Int32) × (Int32) × (Int32) × (Nat → Int32) × (Nat → Int32) × (Nat → Int32) × (Nat → Int32) × (Nat → Int32)) => (wld_X10_run cI cJ cZ h_p0 ad_p0 p0_places p0_steps (u.2.2.1) (u.2.1) (u.1) p0_rowSize p0_ways p0_hasField p0_fieldSize p0_faultNow p0_hasTree p0_treeSize p0_weightCount p0_roundCount p0_setCount p0_closes p0_colour p0_gifts (u.2.2.2.1) p0_needs (u.2.2.2.2.1) (u.2.2.2.2.2.1) (u.2.2.2.2.2.2.1) p0_puts p0_sort p0_takes (u.2.2.2.2.2.2.2) p0_wants)) hP hD hS hA [0, 2, 3, 4, 6, 7, 8, 9, 11, 12, 13] [1, 5, 10] [3, 0, 4, 5, 6, 1, 7, 8, 9, 10, 2, 11, 12, 13] (n := 14) (k := 11) rfl (fun _ => rfl) rfl (by decide +kernel) (fun _ => rfl) (va_runV (As := [.int v15]) (rest := []) ⟨hx, hb, hml, hown, hts⟩ (c_X10_goNow (l := l) (dC := dC) (dI := dI) (cI := cI) (cJ := cJ) (cZ := cZ) (sz := H.size) (h_p0 := h_p0) (ad_p0 := ad_p0) (p0_places := p0_places) (p0_steps := p0_steps) (p0_pastFirst := p0_pastFirst) (p0_past := p0_past) (p0_goings := p0_goings) (p0_rowSize := p0_rowSize) (p0_ways := p0_ways) (p0_hasField := p0_hasField) (p0_fieldSize := p0_fieldSize) (p0_faultNow := p0_faultNow) (p0_hasTree := p0_hasTree) (p0_treeSize := p0_treeSize) (p0_weightCount := p0_weightCount) (p0_roundCount := p0_roundCount) (p0_setCount := p0_setCount) (p0_colour := p0_colour) (p0_gifts := p0_gifts) (p0_has := p0_has) (p0_pastHas := p0_pastHas) (p0_pastStep := p0_pastStep) (p0_pastThings := p0_pastThings) (p0_puts := p0_puts) (p0_takes := p0_takes) (p0_things := p0_things) (p0_wants := p0_wants) hw) (cwV 1 hts gX10_run_X10_goNow rfl rfl rfl (by decide +kernel) ⟨Nat.le_of_ble_eq_true rfl, Nat.le_of_ble_eq_true rfl⟩) ⟨xPre_blind, va_recv hK hP (ci := 10) (q0 := 0) rfl rfl, xPre_at hK hPc hDc n1 n2⟩ rfl rfl hl.1 rfl (lv_room (Nat.le_of_ble_eq_true rfl)) dX10_run_85 ⟨Nat.zero_le _, Nat.zero_le _⟩) (fun u H locs hw hP hD hS => ?_)
                obtain ⟨y45, y46, y47, y48, y49, y50, y51, y52⟩ := u
                try dsimp only at hw
                have hP : va_P (dC, dI) vwCl (wld_X10_run cI cJ cZ h_p0 ad_p0 p0_places p0_steps y47 y46 y45 p0_rowSize p0_ways p0_hasField p0_fieldSize p0_faultNow p0_hasTree p0_treeSize p0_weightCount p0_roundCount p0_setCount p0_closes p0_colour p0_gifts y48 p0_needs y49 y50 y51 p0_puts p0_sort p0_takes y52 p0_wants) H := hP
                have hD : va_D A (wld_X10_run cI cJ cZ h_p0 ad_p0 p0_places p0_steps y47 y46 y45 p0_rowSize p0_ways p0_hasField p0_fieldSize p0_faultNow p0_hasTree p0_treeSize p0_weightCount p0_roundCount p0_setCount p0_closes p0_colour p0_gifts y48 p0_needs y49 y50 y51 p0_puts p0_sort p0_takes y52 p0_wants) := hD
                obtain ⟨x53, ex53⟩ : ∃ y : Int32, y = v2 + (1 : Int32) := ⟨_, rfl⟩
                have hw := hw x53 ex53
                refine lv_iinc (v := x53) (lv' := [(2, .int x53), (3, .int (1 : Int32)), (0, .ref h_p0), (1, .int v1), (4, .int v15)]) hx hb dX10_run_88 hl (k := 3) rfl (by rw [ex53]; rfl) (by decide) rfl (fun ls hl => ?_)
                refine lv_goto (tgt := 18) hx hb dX10_run_91 (by decide) ?_
                exact ih _ _ _ _ _ _ _ _ _ _ hw _ _ _ hP hD hS (lv_sub hl [2, 3, 0, 1] rfl)
set_option maxHeartbeats 4000000 in
set_option maxRecDepth 100000 in
theorem c_X10_run {l : Launch} {dC : Nat → ClassId} {dI : Nat → Nat → Nat} {sz : Nat} {cI cJ cZ : ClassId} {h_p0 : Nat} {ad_p0 : Nat → Nat} {p0_places : Int32} {p0_steps : Int32} {p0_pastFirst : Int32} {p0_past : Int32} {p0_goings : Int32} {p0_rowSize : Int32} {p0_ways : Int32} {p0_hasField : Int32} {p0_fieldSize : Int32} {p0_faultNow : Int32} {p0_hasTree : Int32} {p0_treeSize : Int32} {p0_weightCount : Int32} {p0_roundCount : Int32} {p0_setCount : Int32} {p0_closes : Nat → Int32} {p0_colour : Nat → Int32} {p0_gifts : Nat → Int32} {p0_has : Nat → Int32} {p0_needs : Nat → Int32} {p0_pastHas : Nat → Int32} {p0_pastStep : Nat → Int32} {p0_pastThings : Nat → Int32} {p0_puts : Nat → Int32} {p0_sort : Nat → Int32} {p0_takes : Nat → Int32} {p0_things : Nat → Int32} {p0_wants : Nat → Int32} {a1 : Int32} {post : Int32 → (Int32) → (Int32) → (Int32) → (Nat → Int32) → (Nat → Int32) → (Nat → Int32) → (Nat → Int32) → (Nat → Int32) → Prop} (hw : w_X10_run p0_goings p0_past p0_pastFirst p0_places p0_steps p0_closes p0_colour p0_gifts p0_has p0_needs p0_pastHas p0_pastStep p0_pastThings p0_puts p0_sort p0_takes p0_things p0_wants a1 post) : Met l yX10_run wsX10_run ({ frames := 5, cells := 0, slots := 0, locals := 115 }) (va_Pc [.ref h_p0, .int a1] (xPre (dC, dI) cI cJ cZ (wld_X10_run cI cJ cZ h_p0 ad_p0 p0_places p0_steps p0_pastFirst p0_past p0_goings p0_rowSize p0_ways p0_hasField p0_fieldSize p0_faultNow p0_hasTree p0_treeSize p0_weightCount p0_roundCount p0_setCount p0_closes p0_colour p0_gifts p0_has p0_needs p0_pastHas p0_pastStep p0_pastThings p0_puts p0_sort p0_takes p0_things p0_wants) sz)) (q_X10_run dC dI cI cJ cZ h_p0 ad_p0 p0_places p0_steps p0_pastFirst p0_past p0_goings p0_rowSize p0_ways p0_hasField p0_fieldSize p0_faultNow p0_hasTree p0_treeSize p0_weightCount p0_roundCount p0_setCount p0_closes p0_colour p0_gifts p0_has p0_needs p0_pastHas p0_pastStep p0_pastThings p0_puts p0_sort p0_takes p0_things p0_wants post (va_A (wld_X10_run cI cJ cZ h_p0 ad_p0 p0_places p0_steps p0_pastFirst p0_past p0_goings p0_rowSize p0_ways p0_hasField p0_fieldSize p0_faultNow p0_hasTree p0_treeSize p0_weightCount p0_roundCount p0_setCount p0_closes p0_colour p0_gifts p0_has p0_needs p0_pastHas p0_pastStep p0_pastThings p0_puts p0_sort p0_takes p0_things p0_wants) sz)) 0 0 (va_A (wld_X10_run cI cJ cZ h_p0 ad_p0 p0_places p0_steps p0_pastFirst p0_past p0_goings p0_rowSize p0_ways p0_hasField p0_fieldSize p0_faultNow p0_hasTree p0_treeSize p0_weightCount p0_roundCount p0_setCount p0_closes p0_colour p0_gifts p0_has p0_needs p0_pastHas p0_pastStep p0_pastThings p0_puts p0_sort p0_takes p0_things p0_wants) sz) := by
  refine x_met (cc := cX10_run) (maxL := 5) (ret := (some .int)) (own := RX10) (Qc := fun A => (q_X10_run dC dI cI cJ cZ h_p0 ad_p0 p0_places p0_steps p0_pastFirst p0_past p0_goings p0_rowSize p0_ways p0_hasField p0_fieldSize p0_faultNow p0_hasTree p0_treeSize p0_weightCount p0_roundCount p0_setCount p0_closes p0_colour p0_gifts p0_has p0_needs p0_pastHas p0_pastStep p0_pastThings p0_puts p0_sort p0_takes p0_things p0_wants post A)) (by decide) rfl rfl (Nat.le_of_ble_eq_true rfl) ?_
  intro p e s m args below meth c A ls E0 hP hD hS hl
  obtain ⟨hx, hb, hr, hml, hown, hts, hlocks, hK, hA, n1, n2⟩ := id E0
  have iX10 : ∀ w ∈ u_ws RX10 TX10 50, w ∈ wsX10_run := fun w h => List.mem_cons_of_mem _ (List.mem_append_right _ h)
  have hS0 := hS
  have hl : lv_has ls 5 [(0, .ref h_p0), (1, .int a1)] := hl
  unfold w_X10_run at hw
  obtain ⟨H, hH⟩ : ∃ H, H = s.heap := ⟨_, rfl⟩
  have hS : va_S A s.heap H [] := by rw [hH]; exact hS
  have hP : va_P (dC, dI) vwCl (wld_X10_run cI cJ cZ h_p0 ad_p0 p0_places p0_steps p0_pastFirst p0_past p0_goings p0_rowSize p0_ways p0_hasField p0_fieldSize p0_faultNow p0_hasTree p0_treeSize p0_weightCount p0_roundCount p0_setCount p0_closes p0_colour p0_gifts p0_has p0_needs p0_pastHas p0_pastStep p0_pastThings p0_puts p0_sort p0_takes p0_things p0_wants) H := by rw [hH]; exact hP
  suffices hG : W p l e ({ frames := 5, cells := 0, slots := 0, locals := 115 }) s m args below meth c H [] 0 0 (MQ below (q_X10_run dC dI cI cJ cZ h_p0 ad_p0 p0_places p0_steps p0_pastFirst p0_past p0_goings p0_rowSize p0_ways p0_hasField p0_fieldSize p0_faultNow p0_hasTree p0_treeSize p0_weightCount p0_roundCount p0_setCount p0_closes p0_colour p0_gifts p0_has p0_needs p0_pastHas p0_pastStep p0_pastThings p0_puts p0_sort p0_takes p0_things p0_wants post A) args s 0 0 A) (F0 m 0 ls []) by rw [hH] at hG; exact hG
  clear hH
  refine lv_iload_n hx hb dX10_run_0 rfl (lv_at hl 1 rfl) ?_
  refine lv_iconst (v := 1) hx hb dX10_run_1 (by decide) ?_
  refine lv_sipush (v := 1000) hx hb dX10_run_2 (by decide) ?_
  obtain ⟨hPc, hDc⟩ := x_sub (wc := (wld_X10_isIn cI cJ cZ )) hP hD [] (n := 14) rfl rfl (by decide +kernel)
  refine x_calli (ws' := fun (u : Unit) => (wld_X10_run cI cJ cZ h_p0 ad_p0 p0_places p0_steps p0_pastFirst p0_past p0_goings p0_rowSize p0_ways p0_hasField p0_fieldSize p0_faultNow p0_hasTree p0_treeSize p0_weightCount p0_roundCount p0_setCount p0_closes p0_colour p0_gifts p0_has p0_needs p0_pastHas p0_pastStep p0_pastThings p0_puts p0_sort p0_takes p0_things p0_wants)) hP hD hS hA [] [0, 1, 2, 3, 4, 5, 6, 7, 8, 9, 10, 11, 12, 13] [0, 1, 2, 3, 4, 5, 6, 7, 8, 9, 10, 11, 12, 13] (n := 14) (k := 0) rfl (fun _ => rfl) rfl (by decide +kernel) (fun _ => rfl) (va_runS (As := [.int a1, .int (1 : Int32), .int (1000 : Int32)]) (rest := []) ⟨hx, hb, hml, hown, hts⟩ (c_X10_isIn (l := l) (dC := dC) (dI := dI) (cI := cI) (cJ := cJ) (cZ := cZ) (sz := H.size) hw) (va_cwS 3 hts gX10_run_X10_isIn rfl rfl rfl (by decide +kernel) ⟨Nat.le_of_ble_eq_true rfl, Nat.le_of_ble_eq_true rfl⟩) ⟨xPre_blind, xPre_at hK hPc hDc n1 n2⟩ rfl rfl hl.1 rfl (lv_room (Nat.le_of_ble_eq_true rfl)) dX10_run_5 ⟨Nat.zero_le _, Nat.zero_le _⟩) (fun r1 u H locs hw hP hD hS => ?_)
  try dsimp only at hw
  have hP : va_P (dC, dI) vwCl (wld_X10_run cI cJ cZ h_p0 ad_p0 p0_places p0_steps p0_pastFirst p0_past p0_goings p0_rowSize p0_ways p0_hasField p0_fieldSize p0_faultNow p0_hasTree p0_treeSize p0_weightCount p0_roundCount p0_setCount p0_closes p0_colour p0_gifts p0_has p0_needs p0_pastHas p0_pastStep p0_pastThings p0_puts p0_sort p0_takes p0_things p0_wants) H := hP
  have hD : va_D A (wld_X10_run cI cJ cZ h_p0 ad_p0 p0_places p0_steps p0_pastFirst p0_past p0_goings p0_rowSize p0_ways p0_hasField p0_fieldSize p0_faultNow p0_hasTree p0_treeSize p0_weightCount p0_roundCount p0_setCount p0_closes p0_colour p0_gifts p0_has p0_needs p0_pastHas p0_pastStep p0_pastThings p0_puts p0_sort p0_takes p0_things p0_wants) := hD
  refine lv_if_ne (tgt := 14) hx hb dX10_run_8 (by decide) (fun c2 => ?_) (fun c3 => ?_)
  · have hw := hw.1 c2
    refine lv_iconst (v := 0) hx hb dX10_run_14 (by decide) ?_
    refine lv_istore_n (lv' := [(2, .int (0 : Int32)), (0, .ref h_p0), (1, .int a1)]) hx hb dX10_run_15 rfl hl (by decide) rfl (fun ls hl => ?_)
    refine lv_iconst (v := 1) hx hb dX10_run_16 (by decide) ?_
    refine lv_istore_n (lv' := [(3, .int (1 : Int32)), (2, .int (0 : Int32)), (0, .ref h_p0), (1, .int a1)]) hx hb dX10_run_17 rfl hl (by decide) rfl (fun ls hl => ?_)
    obtain ⟨n54, hw⟩ := hw
    refine c_X10_run_L18 (l := l) (z_p0_goings := p0_goings) (z_p0_past := p0_past) (z_p0_pastFirst := p0_pastFirst) (z_p0_has := p0_has) (z_p0_pastHas := p0_pastHas) (z_p0_pastStep := p0_pastStep) (z_p0_pastThings := p0_pastThings) (z_p0_things := p0_things) E0 ?_ n54 _ _ _ _ _ _ _ _ _ _ hw _ _ _ hP hD hS (lv_sub hl [2, 3, 1, 0] rfl)
    · intro v55 v56 s57 s58 s59 s60 s61 s62 s63 s64 H locs ls hw hP hD hS hl
      have hP : va_P (dC, dI) vwCl (wld_X10_run cI cJ cZ h_p0 ad_p0 p0_places p0_steps s59 s58 s57 p0_rowSize p0_ways p0_hasField p0_fieldSize p0_faultNow p0_hasTree p0_treeSize p0_weightCount p0_roundCount p0_setCount p0_closes p0_colour p0_gifts s60 p0_needs s61 s62 s63 p0_puts p0_sort p0_takes s64 p0_wants) H := hP
      have hD : va_D A (wld_X10_run cI cJ cZ h_p0 ad_p0 p0_places p0_steps s59 s58 s57 p0_rowSize p0_ways p0_hasField p0_fieldSize p0_faultNow p0_hasTree p0_treeSize p0_weightCount p0_roundCount p0_setCount p0_closes p0_colour p0_gifts s60 p0_needs s61 s62 s63 p0_puts p0_sort p0_takes s64 p0_wants) := hD
      refine lv_iload_n hx hb dX10_run_94 rfl (lv_at hl 0 rfl) ?_
      exact x_iret (w1 := fun (u : (Int32) × (Int32) × (Int32) × (Nat → Int32) × (Nat → Int32) × (Nat → Int32) × (Nat → Int32) × (Nat → Int32)) => (wld_X10_run cI cJ cZ h_p0 ad_p0 p0_places p0_steps (u.2.2.1) (u.2.1) (u.1) p0_rowSize p0_ways p0_hasField p0_fieldSize p0_faultNow p0_hasTree p0_treeSize p0_weightCount p0_roundCount p0_setCount p0_closes p0_colour p0_gifts (u.2.2.2.1) p0_needs (u.2.2.2.2.1) (u.2.2.2.2.2.1) (u.2.2.2.2.2.2.1) p0_puts p0_sort p0_takes (u.2.2.2.2.2.2.2) p0_wants)) hx hb hr hlocks (s57, s58, s59, s60, s61, s62, s63, s64) hw hP hD hS dX10_run_95
  · have hw := hw.2 c3
    refine lv_ldc (v := -2000000001) hx hb hown (hts (.constant RX10 159 (-2000000001)) (by decide +kernel)) dX10_run_11 ?_
    exact x_iret (w1 := fun (u : (Int32) × (Int32) × (Int32) × (Nat → Int32) × (Nat → Int32) × (Nat → Int32) × (Nat → Int32) × (Nat → Int32)) => (wld_X10_run cI cJ cZ h_p0 ad_p0 p0_places p0_steps (u.2.2.1) (u.2.1) (u.1) p0_rowSize p0_ways p0_hasField p0_fieldSize p0_faultNow p0_hasTree p0_treeSize p0_weightCount p0_roundCount p0_setCount p0_closes p0_colour p0_gifts (u.2.2.2.1) p0_needs (u.2.2.2.2.1) (u.2.2.2.2.2.1) (u.2.2.2.2.2.2.1) p0_puts p0_sort p0_takes (u.2.2.2.2.2.2.2) p0_wants)) hx hb hr hlocks (p0_goings, p0_past, p0_pastFirst, p0_has, p0_pastHas, p0_pastStep, p0_pastThings, p0_things) hw hP hD hS dX10_run_13
abbrev wld_X10_back (cI cJ cZ : ClassId) (h_p0 : Nat) (ad_p0 : Nat → Nat) (p0_places : Int32) (p0_steps : Int32) (p0_pastFirst : Int32) (p0_past : Int32) (p0_goings : Int32) (p0_rowSize : Int32) (p0_ways : Int32) (p0_hasField : Int32) (p0_fieldSize : Int32) (p0_faultNow : Int32) (p0_hasTree : Int32) (p0_treeSize : Int32) (p0_weightCount : Int32) (p0_roundCount : Int32) (p0_setCount : Int32) (p0_has : Nat → Int32) (p0_pastHas : Nat → Int32) (p0_pastStep : Nat → Int32) (p0_pastThings : Nat → Int32) (p0_things : Nat → Int32) : va_W := [(h_p0, .inr (10, [.int p0_places, .int p0_steps, .ref (ad_p0 2), .ref (ad_p0 3), .ref (ad_p0 4), .ref (ad_p0 5), .ref (ad_p0 6), .ref (ad_p0 7), .ref (ad_p0 8), .ref (ad_p0 9), .ref (ad_p0 10), .ref (ad_p0 11), .ref (ad_p0 12), .ref (ad_p0 13), .ref (ad_p0 14), .int p0_pastFirst, .int p0_past, .int p0_goings, .int p0_rowSize, .ref (ad_p0 19), .ref (ad_p0 20), .int p0_ways, .ref (ad_p0 22), .ref (ad_p0 23), .int p0_hasField, .int p0_fieldSize, .ref (ad_p0 26), .ref (ad_p0 27), .ref (ad_p0 28), .ref (ad_p0 29), .ref (ad_p0 30), .ref (ad_p0 31), .ref (ad_p0 32), .int p0_faultNow, .int p0_hasTree, .int p0_treeSize, .ref (ad_p0 36), .ref (ad_p0 37), .ref (ad_p0 38), .ref (ad_p0 39), .ref (ad_p0 40), .ref (ad_p0 41), .ref (ad_p0 42), .int p0_weightCount, .ref (ad_p0 44), .int p0_roundCount, .ref (ad_p0 46), .int p0_setCount, .ref (ad_p0 48), .ref (ad_p0 49)])), ((ad_p0 10), .inl (cI, 16, .inl p0_has)), ((ad_p0 13), .inl (cI, 4096, .inl p0_pastHas)), ((ad_p0 12), .inl (cI, 256, .inl p0_pastStep)), ((ad_p0 14), .inl (cI, 81920, .inl p0_pastThings)), ((ad_p0 11), .inl (cI, 320, .inl p0_things))]
abbrev q_X10_back (dC : Nat → ClassId) (dI : Nat → Nat → Nat) (cI cJ cZ : ClassId) (h_p0 : Nat) (ad_p0 : Nat → Nat) (p0_places : Int32) (p0_steps : Int32) (p0_pastFirst : Int32) (p0_past : Int32) (p0_goings : Int32) (p0_rowSize : Int32) (p0_ways : Int32) (p0_hasField : Int32) (p0_fieldSize : Int32) (p0_faultNow : Int32) (p0_hasTree : Int32) (p0_treeSize : Int32) (p0_weightCount : Int32) (p0_roundCount : Int32) (p0_setCount : Int32) (p0_has : Nat → Int32) (p0_pastHas : Nat → Int32) (p0_pastStep : Nat → Int32) (p0_pastThings : Nat → Int32) (p0_things : Nat → Int32) (post : Int32 → (Int32) → (Nat → Int32) → (Nat → Int32) → Prop) (A : Nat → Prop) : Array Value → State → Outcome → State → Prop := va_Qi (fun r (u : (Int32) × (Nat → Int32) × (Nat → Int32)) => post r (u.1) (u.2.1) (u.2.2)) (fun (u : (Int32) × (Nat → Int32) × (Nat → Int32)) t => xPost (dC, dI) A (wld_X10_back cI cJ cZ h_p0 ad_p0 p0_places p0_steps p0_pastFirst (u.1) p0_goings p0_rowSize p0_ways p0_hasField p0_fieldSize p0_faultNow p0_hasTree p0_treeSize p0_weightCount p0_roundCount p0_setCount (u.2.1) p0_pastHas p0_pastStep p0_pastThings (u.2.2)) t) A
def w_X10_back_L36b (v1 : Int32) (p0_past : Int32) (p0_pastFirst : Int32) (p0_pastHas : Nat → Int32) (p0_pastStep : Nat → Int32) (p0_pastThings : Nat → Int32) (p0_things : Nat → Int32) (post : Int32 → (Int32) → (Nat → Int32) → (Nat → Int32) → Prop) (K : (Int32) → (Nat → Int32) → Prop) (rec : (Int32) → (Nat → Int32) → Prop) (v2 : Int32) (p0_has : Nat → Int32) : Prop :=
    ((16 : Int32) ≤ v2 →
      K v2 p0_has) ∧
    (¬ (16 : Int32) ≤ v2 →
      vp_in (((16 : Int32) * v1) + v2) 4096 ∧
      vp_in v2 16 ∧
      ∀ x7 : Int32, x7 = v2 + (1 : Int32) →
      rec x7 (upd p0_has v2.toNatClampNeg (p0_pastHas (((16 : Int32) * v1) + v2).toNatClampNeg)))
def w_X10_back_L36 (v1 : Int32) (p0_past : Int32) (p0_pastFirst : Int32) (p0_pastHas : Nat → Int32) (p0_pastStep : Nat → Int32) (p0_pastThings : Nat → Int32) (p0_things : Nat → Int32) (post : Int32 → (Int32) → (Nat → Int32) → (Nat → Int32) → Prop) (K : (Int32) → (Nat → Int32) → Prop) : Nat → (Int32) → (Nat → Int32) → Prop
  | 0, _, _ => False
  | n + 1, v2, p0_has => w_X10_back_L36b v1 p0_past p0_pastFirst p0_pastHas p0_pastStep p0_pastThings p0_things post K (w_X10_back_L36 v1 p0_past p0_pastFirst p0_pastHas p0_pastStep p0_pastThings p0_things post K n) v2 p0_has
def w_X10_back_L67b (v1 : Int32) (p0_past : Int32) (p0_pastFirst : Int32) (p0_has : Nat → Int32) (p0_pastHas : Nat → Int32) (p0_pastStep : Nat → Int32) (p0_pastThings : Nat → Int32) (post : Int32 → (Int32) → (Nat → Int32) → (Nat → Int32) → Prop) (K : (Int32) → (Nat → Int32) → Prop) (rec : (Int32) → (Nat → Int32) → Prop) (v2 : Int32) (p0_things : Nat → Int32) : Prop :=
    ((320 : Int32) ≤ v2 →
      K v2 p0_things) ∧
    (¬ (320 : Int32) ≤ v2 →
      vp_in (((320 : Int32) * v1) + v2) 81920 ∧
      vp_in v2 320 ∧
      ∀ x13 : Int32, x13 = v2 + (1 : Int32) →
      rec x13 (upd p0_things v2.toNatClampNeg (p0_pastThings (((320 : Int32) * v1) + v2).toNatClampNeg)))
def w_X10_back_L67 (v1 : Int32) (p0_past : Int32) (p0_pastFirst : Int32) (p0_has : Nat → Int32) (p0_pastHas : Nat → Int32) (p0_pastStep : Nat → Int32) (p0_pastThings : Nat → Int32) (post : Int32 → (Int32) → (Nat → Int32) → (Nat → Int32) → Prop) (K : (Int32) → (Nat → Int32) → Prop) : Nat → (Int32) → (Nat → Int32) → Prop
  | 0, _, _ => False
  | n + 1, v2, p0_things => w_X10_back_L67b v1 p0_past p0_pastFirst p0_has p0_pastHas p0_pastStep p0_pastThings post K (w_X10_back_L67 v1 p0_past p0_pastFirst p0_has p0_pastHas p0_pastStep p0_pastThings post K n) v2 p0_things
def w_X10_back (p0_past : Int32) (p0_pastFirst : Int32) (p0_has : Nat → Int32) (p0_pastHas : Nat → Int32) (p0_pastStep : Nat → Int32) (p0_pastThings : Nat → Int32) (p0_things : Nat → Int32) (post : Int32 → (Int32) → (Nat → Int32) → (Nat → Int32) → Prop) : Prop :=
  (¬ p0_past = 0 →
    ∀ x3 : Int32, x3 = (p0_past - (1 : Int32)) →
    ∀ x4 : Int32, x4 = ((p0_pastFirst + x3) - (p0_pastFirst + x3) / (256 : Int32) * (256 : Int32)) →
    ∃ n : Nat, w_X10_back_L36 x4 x3 p0_pastFirst p0_pastHas p0_pastStep p0_pastThings p0_things post (fun v9 s10 =>
        ∃ n : Nat, w_X10_back_L67 x4 x3 p0_pastFirst s10 p0_pastHas p0_pastStep p0_pastThings post (fun v15 s16 =>
            vp_in x4 256 ∧
            (post (p0_pastStep x4.toNatClampNeg) x3 s10 s16)) n (0 : Int32) p0_things) n (0 : Int32) p0_has) ∧
  (p0_past = 0 →
    (post (-2000000002 : Int32) p0_past p0_has p0_things))
set_option maxHeartbeats 4000000 in
set_option maxRecDepth 100000 in
theorem c_X10_back_L36 {p : Program} {l : Launch} {e : Env} {s : State} {m : MethodId} {args : Array Value} {below : List Frame} {meth : Method} {c : Code} {dC : Nat → ClassId} {dI : Nat → Nat → Nat} {A : Nat → Prop} {cI cJ cZ : ClassId} {h_p0 : Nat} {ad_p0 : Nat → Nat} {p0_places : Int32} {p0_steps : Int32} {p0_pastFirst : Int32} {p0_past : Int32} {p0_goings : Int32} {p0_rowSize : Int32} {p0_ways : Int32} {p0_hasField : Int32} {p0_fieldSize : Int32} {p0_faultNow : Int32} {p0_hasTree : Int32} {p0_treeSize : Int32} {p0_weightCount : Int32} {p0_roundCount : Int32} {p0_setCount : Int32} {p0_pastHas : Nat → Int32} {p0_pastStep : Nat → Int32} {p0_pastThings : Nat → Int32} {p0_things : Nat → Int32} {v1 : Int32} {z_p0_has : Nat → Int32} {post : Int32 → (Int32) → (Nat → Int32) → (Nat → Int32) → Prop} {K : (Int32) → (Nat → Int32) → Prop} (E0 : xEnv p s m args meth c cX10_back (some .int) 3 RX10 wsX10_back (dC, dI) cI cJ cZ A) (hk : ∀ (v2 : Int32) (p0_has : Nat → Int32) (H : Heap) (locs : List Loc) (ls : Array Slot), K v2 p0_has → va_P (dC, dI) vwCl (wld_X10_back cI cJ cZ h_p0 ad_p0 p0_places p0_steps p0_pastFirst p0_past p0_goings p0_rowSize p0_ways p0_hasField p0_fieldSize p0_faultNow p0_hasTree p0_treeSize p0_weightCount p0_roundCount p0_setCount p0_has p0_pastHas p0_pastStep p0_pastThings p0_things) H → va_D A (wld_X10_back cI cJ cZ h_p0 ad_p0 p0_places p0_steps p0_pastFirst p0_past p0_goings p0_rowSize p0_ways p0_hasField p0_fieldSize p0_faultNow p0_hasTree p0_treeSize p0_weightCount p0_roundCount p0_setCount p0_has p0_pastHas p0_pastStep p0_pastThings p0_things) → va_S A s.heap H locs → lv_has ls 3 [(0, .ref h_p0), (1, .int v1)] → W p l e ({ frames := 0, cells := 0, slots := 0, locals := 0 }) s m args below meth c H locs 0 0 (MQ below (q_X10_back dC dI cI cJ cZ h_p0 ad_p0 p0_places p0_steps p0_pastFirst p0_past p0_goings p0_rowSize p0_ways p0_hasField p0_fieldSize p0_faultNow p0_hasTree p0_treeSize p0_weightCount p0_roundCount p0_setCount z_p0_has p0_pastHas p0_pastStep p0_pastThings p0_things post A) args s 0 0 A) (F0 m 65 ls [])) : ∀ (n : Nat) (v2 : Int32) (p0_has : Nat → Int32), w_X10_back_L36 v1 p0_past p0_pastFirst p0_pastHas p0_pastStep p0_pastThings p0_things post K n v2 p0_has → ∀ (H : Heap) (locs : List Loc) (ls : Array Slot), va_P (dC, dI) vwCl (wld_X10_back cI cJ cZ h_p0 ad_p0 p0_places p0_steps p0_pastFirst p0_past p0_goings p0_rowSize p0_ways p0_hasField p0_fieldSize p0_faultNow p0_hasTree p0_treeSize p0_weightCount p0_roundCount p0_setCount p0_has p0_pastHas p0_pastStep p0_pastThings p0_things) H → va_D A (wld_X10_back cI cJ cZ h_p0 ad_p0 p0_places p0_steps p0_pastFirst p0_past p0_goings p0_rowSize p0_ways p0_hasField p0_fieldSize p0_faultNow p0_hasTree p0_treeSize p0_weightCount p0_roundCount p0_setCount p0_has p0_pastHas p0_pastStep p0_pastThings p0_things) → va_S A s.heap H locs → lv_has ls 3 [(0, .ref h_p0), (1, .int v1), (2, .int v2)] → W p l e ({ frames := 0, cells := 0, slots := 0, locals := 0 }) s m args below meth c H locs 0 0 (MQ below (q_X10_back dC dI cI cJ cZ h_p0 ad_p0 p0_places p0_steps p0_pastFirst p0_past p0_goings p0_rowSize p0_ways p0_hasField p0_fieldSize p0_faultNow p0_hasTree p0_treeSize p0_weightCount p0_roundCount p0_setCount z_p0_has p0_pastHas p0_pastStep p0_pastThings p0_things post A) args s 0 0 A) (F0 m 36 ls []) := by
  obtain ⟨hx, hb, hr, hml, hown, hts, hlocks, hK, hA, n1, n2⟩ := id E0
  have iX10 : ∀ w ∈ u_ws RX10 TX10 50, w ∈ wsX10_back := fun w h => List.mem_cons_of_mem _ (List.mem_append_right _ h)
  intro n
  induction n with
  | zero => intro v2 p0_has hw; exact hw.elim
  | succ n ih =>
    intro v2 p0_has hw H locs ls hP hD hS hl
    have hw : w_X10_back_L36b v1 p0_past p0_pastFirst p0_pastHas p0_pastStep p0_pastThings p0_things post K (w_X10_back_L36 v1 p0_past p0_pastFirst p0_pastHas p0_pastStep p0_pastThings p0_things post K n) v2 p0_has := hw
    unfold w_X10_back_L36b at hw
    refine lv_iload_n hx hb dX10_back_36 rfl (lv_at hl 2 rfl) ?_
    refine lv_bipush (v := 16) hx hb dX10_back_37 (by decide) ?_
    refine lv_icmp_ge (tgt := 65) hx hb dX10_back_39 (by decide) (fun c5 => ?_) (fun c6 => ?_)
    · have hw := hw.1 c5
      exact hk _ _ _ _ _ hw hP hD hS (lv_sub hl [0, 1] rfl)
    · have hw := hw.2 c6
      refine lv_aload_n hx hb dX10_back_42 rfl (lv_at hl 0 rfl) ?_
      refine va_get (D := (dC, dI)) (ci := 10) (v := .ref (ad_p0 10)) (C := RX10) (T := TX10) (N := 50) hx hb hts iX10 hown hK hP 0 rfl rfl 10 (by decide) (hts (.fieldLink RX10 34 "NetHouseModel" "has" "[I") (by decide +kernel)) (fun _ h9 => h9) rfl dX10_back_43 ?_
      refine lv_iload_n hx hb dX10_back_46 rfl (lv_at hl 2 rfl) ?_
      refine lv_aload_n hx hb dX10_back_47 rfl (lv_at hl 0 rfl) ?_
      refine va_get (D := (dC, dI)) (ci := 10) (v := .ref (ad_p0 13)) (C := RX10) (T := TX10) (N := 50) hx hb hts iX10 hown hK hP 0 rfl rfl 13 (by decide) (hts (.fieldLink RX10 43 "NetHouseModel" "pastHas" "[I") (by decide +kernel)) (fun _ h9 => h9) rfl dX10_back_48 ?_
      refine lv_bipush (v := 16) hx hb dX10_back_51 (by decide) ?_
      refine lv_iload_n hx hb dX10_back_53 rfl (lv_at hl 1 rfl) ?_
      refine lv_imul hx hb dX10_back_54 ?_
      refine lv_iload_n hx hb dX10_back_55 rfl (lv_at hl 2 rfl) ?_
      refine lv_iadd hx hb dX10_back_56 ?_
      refine va_iald hx hb hK hP 2 0 rfl rfl hw.1 dX10_back_57 ?_
      have hw := hw.2
      refine va_iast hx hb hK hP hD hS 1 0 rfl rfl hw.1 dX10_back_58 (fun H locs hP hD hS => ?_)
      have hw := hw.2
      have hP : va_P (dC, dI) vwCl (wld_X10_back cI cJ cZ h_p0 ad_p0 p0_places p0_steps p0_pastFirst p0_past p0_goings p0_rowSize p0_ways p0_hasField p0_fieldSize p0_faultNow p0_hasTree p0_treeSize p0_weightCount p0_roundCount p0_setCount (upd p0_has v2.toNatClampNeg (p0_pastHas (((16 : Int32) * v1) + v2).toNatClampNeg)) p0_pastHas p0_pastStep p0_pastThings p0_things) H := hP
      have hD : va_D A (wld_X10_back cI cJ cZ h_p0 ad_p0 p0_places p0_steps p0_pastFirst p0_past p0_goings p0_rowSize p0_ways p0_hasField p0_fieldSize p0_faultNow p0_hasTree p0_treeSize p0_weightCount p0_roundCount p0_setCount (upd p0_has v2.toNatClampNeg (p0_pastHas (((16 : Int32) * v1) + v2).toNatClampNeg)) p0_pastHas p0_pastStep p0_pastThings p0_things) := hD
      obtain ⟨x7, ex7⟩ : ∃ y : Int32, y = v2 + (1 : Int32) := ⟨_, rfl⟩
      have hw := hw x7 ex7
      refine lv_iinc (v := x7) (lv' := [(2, .int x7), (0, .ref h_p0), (1, .int v1)]) hx hb dX10_back_59 hl (k := 2) rfl (by rw [ex7]; rfl) (by decide) rfl (fun ls hl => ?_)
      refine lv_goto (tgt := 36) hx hb dX10_back_62 (by decide) ?_
      exact ih _ _ hw _ _ _ hP hD hS (lv_sub hl [1, 2, 0] rfl)
set_option maxHeartbeats 4000000 in
set_option maxRecDepth 100000 in
theorem c_X10_back_L67 {p : Program} {l : Launch} {e : Env} {s : State} {m : MethodId} {args : Array Value} {below : List Frame} {meth : Method} {c : Code} {dC : Nat → ClassId} {dI : Nat → Nat → Nat} {A : Nat → Prop} {cI cJ cZ : ClassId} {h_p0 : Nat} {ad_p0 : Nat → Nat} {p0_places : Int32} {p0_steps : Int32} {p0_pastFirst : Int32} {p0_past : Int32} {p0_goings : Int32} {p0_rowSize : Int32} {p0_ways : Int32} {p0_hasField : Int32} {p0_fieldSize : Int32} {p0_faultNow : Int32} {p0_hasTree : Int32} {p0_treeSize : Int32} {p0_weightCount : Int32} {p0_roundCount : Int32} {p0_setCount : Int32} {p0_has : Nat → Int32} {p0_pastHas : Nat → Int32} {p0_pastStep : Nat → Int32} {p0_pastThings : Nat → Int32} {v1 : Int32} {z_p0_things : Nat → Int32} {post : Int32 → (Int32) → (Nat → Int32) → (Nat → Int32) → Prop} {K : (Int32) → (Nat → Int32) → Prop} (E0 : xEnv p s m args meth c cX10_back (some .int) 3 RX10 wsX10_back (dC, dI) cI cJ cZ A) (hk : ∀ (v2 : Int32) (p0_things : Nat → Int32) (H : Heap) (locs : List Loc) (ls : Array Slot), K v2 p0_things → va_P (dC, dI) vwCl (wld_X10_back cI cJ cZ h_p0 ad_p0 p0_places p0_steps p0_pastFirst p0_past p0_goings p0_rowSize p0_ways p0_hasField p0_fieldSize p0_faultNow p0_hasTree p0_treeSize p0_weightCount p0_roundCount p0_setCount p0_has p0_pastHas p0_pastStep p0_pastThings p0_things) H → va_D A (wld_X10_back cI cJ cZ h_p0 ad_p0 p0_places p0_steps p0_pastFirst p0_past p0_goings p0_rowSize p0_ways p0_hasField p0_fieldSize p0_faultNow p0_hasTree p0_treeSize p0_weightCount p0_roundCount p0_setCount p0_has p0_pastHas p0_pastStep p0_pastThings p0_things) → va_S A s.heap H locs → lv_has ls 3 [(0, .ref h_p0), (1, .int v1)] → W p l e ({ frames := 0, cells := 0, slots := 0, locals := 0 }) s m args below meth c H locs 0 0 (MQ below (q_X10_back dC dI cI cJ cZ h_p0 ad_p0 p0_places p0_steps p0_pastFirst p0_past p0_goings p0_rowSize p0_ways p0_hasField p0_fieldSize p0_faultNow p0_hasTree p0_treeSize p0_weightCount p0_roundCount p0_setCount p0_has p0_pastHas p0_pastStep p0_pastThings z_p0_things post A) args s 0 0 A) (F0 m 98 ls [])) : ∀ (n : Nat) (v2 : Int32) (p0_things : Nat → Int32), w_X10_back_L67 v1 p0_past p0_pastFirst p0_has p0_pastHas p0_pastStep p0_pastThings post K n v2 p0_things → ∀ (H : Heap) (locs : List Loc) (ls : Array Slot), va_P (dC, dI) vwCl (wld_X10_back cI cJ cZ h_p0 ad_p0 p0_places p0_steps p0_pastFirst p0_past p0_goings p0_rowSize p0_ways p0_hasField p0_fieldSize p0_faultNow p0_hasTree p0_treeSize p0_weightCount p0_roundCount p0_setCount p0_has p0_pastHas p0_pastStep p0_pastThings p0_things) H → va_D A (wld_X10_back cI cJ cZ h_p0 ad_p0 p0_places p0_steps p0_pastFirst p0_past p0_goings p0_rowSize p0_ways p0_hasField p0_fieldSize p0_faultNow p0_hasTree p0_treeSize p0_weightCount p0_roundCount p0_setCount p0_has p0_pastHas p0_pastStep p0_pastThings p0_things) → va_S A s.heap H locs → lv_has ls 3 [(0, .ref h_p0), (1, .int v1), (2, .int v2)] → W p l e ({ frames := 0, cells := 0, slots := 0, locals := 0 }) s m args below meth c H locs 0 0 (MQ below (q_X10_back dC dI cI cJ cZ h_p0 ad_p0 p0_places p0_steps p0_pastFirst p0_past p0_goings p0_rowSize p0_ways p0_hasField p0_fieldSize p0_faultNow p0_hasTree p0_treeSize p0_weightCount p0_roundCount p0_setCount p0_has p0_pastHas p0_pastStep p0_pastThings z_p0_things post A) args s 0 0 A) (F0 m 67 ls []) := by
  obtain ⟨hx, hb, hr, hml, hown, hts, hlocks, hK, hA, n1, n2⟩ := id E0
  have iX10 : ∀ w ∈ u_ws RX10 TX10 50, w ∈ wsX10_back := fun w h => List.mem_cons_of_mem _ (List.mem_append_right _ h)
  intro n
  induction n with
  | zero => intro v2 p0_things hw; exact hw.elim
  | succ n ih =>
    intro v2 p0_things hw H locs ls hP hD hS hl
    have hw : w_X10_back_L67b v1 p0_past p0_pastFirst p0_has p0_pastHas p0_pastStep p0_pastThings post K (w_X10_back_L67 v1 p0_past p0_pastFirst p0_has p0_pastHas p0_pastStep p0_pastThings post K n) v2 p0_things := hw
    unfold w_X10_back_L67b at hw
    refine lv_iload_n hx hb dX10_back_67 rfl (lv_at hl 2 rfl) ?_
    refine lv_sipush (v := 320) hx hb dX10_back_68 (by decide) ?_
    refine lv_icmp_ge (tgt := 98) hx hb dX10_back_71 (by decide) (fun c11 => ?_) (fun c12 => ?_)
    · have hw := hw.1 c11
      exact hk _ _ _ _ _ hw hP hD hS (lv_sub hl [0, 1] rfl)
    · have hw := hw.2 c12
      refine lv_aload_n hx hb dX10_back_74 rfl (lv_at hl 0 rfl) ?_
      refine va_get (D := (dC, dI)) (ci := 10) (v := .ref (ad_p0 11)) (C := RX10) (T := TX10) (N := 50) hx hb hts iX10 hown hK hP 0 rfl rfl 11 (by decide) (hts (.fieldLink RX10 37 "NetHouseModel" "things" "[I") (by decide +kernel)) (fun _ h9 => h9) rfl dX10_back_75 ?_
      refine lv_iload_n hx hb dX10_back_78 rfl (lv_at hl 2 rfl) ?_
      refine lv_aload_n hx hb dX10_back_79 rfl (lv_at hl 0 rfl) ?_
      refine va_get (D := (dC, dI)) (ci := 10) (v := .ref (ad_p0 14)) (C := RX10) (T := TX10) (N := 50) hx hb hts iX10 hown hK hP 0 rfl rfl 14 (by decide) (hts (.fieldLink RX10 47 "NetHouseModel" "pastThings" "[I") (by decide +kernel)) (fun _ h9 => h9) rfl dX10_back_80 ?_
      refine lv_sipush (v := 320) hx hb dX10_back_83 (by decide) ?_
      refine lv_iload_n hx hb dX10_back_86 rfl (lv_at hl 1 rfl) ?_
      refine lv_imul hx hb dX10_back_87 ?_
      refine lv_iload_n hx hb dX10_back_88 rfl (lv_at hl 2 rfl) ?_
      refine lv_iadd hx hb dX10_back_89 ?_
      refine va_iald hx hb hK hP 4 0 rfl rfl hw.1 dX10_back_90 ?_
      have hw := hw.2
      refine va_iast hx hb hK hP hD hS 5 0 rfl rfl hw.1 dX10_back_91 (fun H locs hP hD hS => ?_)
      have hw := hw.2
      have hP : va_P (dC, dI) vwCl (wld_X10_back cI cJ cZ h_p0 ad_p0 p0_places p0_steps p0_pastFirst p0_past p0_goings p0_rowSize p0_ways p0_hasField p0_fieldSize p0_faultNow p0_hasTree p0_treeSize p0_weightCount p0_roundCount p0_setCount p0_has p0_pastHas p0_pastStep p0_pastThings (upd p0_things v2.toNatClampNeg (p0_pastThings (((320 : Int32) * v1) + v2).toNatClampNeg))) H := hP
      have hD : va_D A (wld_X10_back cI cJ cZ h_p0 ad_p0 p0_places p0_steps p0_pastFirst p0_past p0_goings p0_rowSize p0_ways p0_hasField p0_fieldSize p0_faultNow p0_hasTree p0_treeSize p0_weightCount p0_roundCount p0_setCount p0_has p0_pastHas p0_pastStep p0_pastThings (upd p0_things v2.toNatClampNeg (p0_pastThings (((320 : Int32) * v1) + v2).toNatClampNeg))) := hD
      obtain ⟨x13, ex13⟩ : ∃ y : Int32, y = v2 + (1 : Int32) := ⟨_, rfl⟩
      have hw := hw x13 ex13
      refine lv_iinc (v := x13) (lv' := [(2, .int x13), (0, .ref h_p0), (1, .int v1)]) hx hb dX10_back_92 hl (k := 2) rfl (by rw [ex13]; rfl) (by decide) rfl (fun ls hl => ?_)
      refine lv_goto (tgt := 67) hx hb dX10_back_95 (by decide) ?_
      exact ih _ _ hw _ _ _ hP hD hS (lv_sub hl [1, 2, 0] rfl)
set_option maxHeartbeats 4000000 in
set_option maxRecDepth 100000 in
theorem c_X10_back {l : Launch} {dC : Nat → ClassId} {dI : Nat → Nat → Nat} {sz : Nat} {cI cJ cZ : ClassId} {h_p0 : Nat} {ad_p0 : Nat → Nat} {p0_places : Int32} {p0_steps : Int32} {p0_pastFirst : Int32} {p0_past : Int32} {p0_goings : Int32} {p0_rowSize : Int32} {p0_ways : Int32} {p0_hasField : Int32} {p0_fieldSize : Int32} {p0_faultNow : Int32} {p0_hasTree : Int32} {p0_treeSize : Int32} {p0_weightCount : Int32} {p0_roundCount : Int32} {p0_setCount : Int32} {p0_has : Nat → Int32} {p0_pastHas : Nat → Int32} {p0_pastStep : Nat → Int32} {p0_pastThings : Nat → Int32} {p0_things : Nat → Int32}  {post : Int32 → (Int32) → (Nat → Int32) → (Nat → Int32) → Prop} (hw : w_X10_back p0_past p0_pastFirst p0_has p0_pastHas p0_pastStep p0_pastThings p0_things post) : Met l yX10_back wsX10_back ({ frames := 0, cells := 0, slots := 0, locals := 0 }) (va_Pc [.ref h_p0] (xPre (dC, dI) cI cJ cZ (wld_X10_back cI cJ cZ h_p0 ad_p0 p0_places p0_steps p0_pastFirst p0_past p0_goings p0_rowSize p0_ways p0_hasField p0_fieldSize p0_faultNow p0_hasTree p0_treeSize p0_weightCount p0_roundCount p0_setCount p0_has p0_pastHas p0_pastStep p0_pastThings p0_things) sz)) (q_X10_back dC dI cI cJ cZ h_p0 ad_p0 p0_places p0_steps p0_pastFirst p0_past p0_goings p0_rowSize p0_ways p0_hasField p0_fieldSize p0_faultNow p0_hasTree p0_treeSize p0_weightCount p0_roundCount p0_setCount p0_has p0_pastHas p0_pastStep p0_pastThings p0_things post (va_A (wld_X10_back cI cJ cZ h_p0 ad_p0 p0_places p0_steps p0_pastFirst p0_past p0_goings p0_rowSize p0_ways p0_hasField p0_fieldSize p0_faultNow p0_hasTree p0_treeSize p0_weightCount p0_roundCount p0_setCount p0_has p0_pastHas p0_pastStep p0_pastThings p0_things) sz)) 0 0 (va_A (wld_X10_back cI cJ cZ h_p0 ad_p0 p0_places p0_steps p0_pastFirst p0_past p0_goings p0_rowSize p0_ways p0_hasField p0_fieldSize p0_faultNow p0_hasTree p0_treeSize p0_weightCount p0_roundCount p0_setCount p0_has p0_pastHas p0_pastStep p0_pastThings p0_things) sz) := by
  refine x_met (cc := cX10_back) (maxL := 3) (ret := (some .int)) (own := RX10) (Qc := fun A => (q_X10_back dC dI cI cJ cZ h_p0 ad_p0 p0_places p0_steps p0_pastFirst p0_past p0_goings p0_rowSize p0_ways p0_hasField p0_fieldSize p0_faultNow p0_hasTree p0_treeSize p0_weightCount p0_roundCount p0_setCount p0_has p0_pastHas p0_pastStep p0_pastThings p0_things post A)) (by decide) rfl rfl (Nat.le_of_ble_eq_true rfl) ?_
  intro p e s m args below meth c A ls E0 hP hD hS hl
  obtain ⟨hx, hb, hr, hml, hown, hts, hlocks, hK, hA, n1, n2⟩ := id E0
  have iX10 : ∀ w ∈ u_ws RX10 TX10 50, w ∈ wsX10_back := fun w h => List.mem_cons_of_mem _ (List.mem_append_right _ h)
  have hS0 := hS
  have hl : lv_has ls 3 [(0, .ref h_p0)] := hl
  unfold w_X10_back at hw
  obtain ⟨H, hH⟩ : ∃ H, H = s.heap := ⟨_, rfl⟩
  have hS : va_S A s.heap H [] := by rw [hH]; exact hS
  have hP : va_P (dC, dI) vwCl (wld_X10_back cI cJ cZ h_p0 ad_p0 p0_places p0_steps p0_pastFirst p0_past p0_goings p0_rowSize p0_ways p0_hasField p0_fieldSize p0_faultNow p0_hasTree p0_treeSize p0_weightCount p0_roundCount p0_setCount p0_has p0_pastHas p0_pastStep p0_pastThings p0_things) H := by rw [hH]; exact hP
  suffices hG : W p l e ({ frames := 0, cells := 0, slots := 0, locals := 0 }) s m args below meth c H [] 0 0 (MQ below (q_X10_back dC dI cI cJ cZ h_p0 ad_p0 p0_places p0_steps p0_pastFirst p0_past p0_goings p0_rowSize p0_ways p0_hasField p0_fieldSize p0_faultNow p0_hasTree p0_treeSize p0_weightCount p0_roundCount p0_setCount p0_has p0_pastHas p0_pastStep p0_pastThings p0_things post A) args s 0 0 A) (F0 m 0 ls []) by rw [hH] at hG; exact hG
  clear hH
  refine lv_aload_n hx hb dX10_back_0 rfl (lv_at hl 0 rfl) ?_
  refine va_get (D := (dC, dI)) (ci := 10) (v := .int p0_past) (C := RX10) (T := TX10) (N := 50) hx hb hts iX10 hown hK hP 0 rfl rfl 16 (by decide) (hts (.fieldLink RX10 152 "NetHouseModel" "past" "I") (by decide +kernel)) (fun _ h9 => h9) rfl dX10_back_1 ?_
  refine lv_if_ne (tgt := 10) hx hb dX10_back_4 (by decide) (fun c1 => ?_) (fun c2 => ?_)
  · have hw := hw.1 c1
    refine lv_aload_n hx hb dX10_back_10 rfl (lv_at hl 0 rfl) ?_
    refine lv_dup hx hb dX10_back_11 rfl ?_
    refine va_get (D := (dC, dI)) (ci := 10) (v := .int p0_past) (C := RX10) (T := TX10) (N := 50) hx hb hts iX10 hown hK hP 0 rfl rfl 16 (by decide) (hts (.fieldLink RX10 152 "NetHouseModel" "past" "I") (by decide +kernel)) (fun _ h9 => h9) rfl dX10_back_12 ?_
    refine lv_iconst (v := 1) hx hb dX10_back_15 (by decide) ?_
    refine lv_isub hx hb dX10_back_16 ?_
    refine lv_topi (fun x3 ex3 => ?_)
    have hw := hw x3 ex3
    refine va_put (D := (dC, dI)) (ci := 10) (v := .int x3) (ty := .int) (C := RX10) (T := TX10) (N := 50) hx hb hts iX10 tyX10 tyX10_ok nmX10 hown hK hP hD hS 0 rfl rfl 16 (by decide) (hts (.fieldLink RX10 152 "NetHouseModel" "past" "I") (by decide +kernel)) (fun _ h9 => h9) rfl (by decide +kernel) rfl rfl (Nat.le_of_ble_eq_true rfl) dX10_back_17 (fun H locs hP hD hS => ?_)
    have hP : va_P (dC, dI) vwCl (wld_X10_back cI cJ cZ h_p0 ad_p0 p0_places p0_steps p0_pastFirst x3 p0_goings p0_rowSize p0_ways p0_hasField p0_fieldSize p0_faultNow p0_hasTree p0_treeSize p0_weightCount p0_roundCount p0_setCount p0_has p0_pastHas p0_pastStep p0_pastThings p0_things) H := hP
    have hD : va_D A (wld_X10_back cI cJ cZ h_p0 ad_p0 p0_places p0_steps p0_pastFirst x3 p0_goings p0_rowSize p0_ways p0_hasField p0_fieldSize p0_faultNow p0_hasTree p0_treeSize p0_weightCount p0_roundCount p0_setCount p0_has p0_pastHas p0_pastStep p0_pastThings p0_things) := hD
    refine lv_aload_n hx hb dX10_back_20 rfl (lv_at hl 0 rfl) ?_
    refine va_get (D := (dC, dI)) (ci := 10) (v := .int p0_pastFirst) (C := RX10) (T := TX10) (N := 50) hx hb hts iX10 hown hK hP 0 rfl rfl 15 (by decide) (hts (.fieldLink RX10 201 "NetHouseModel" "pastFirst" "I") (by decide +kernel)) (fun _ h9 => h9) rfl dX10_back_21 ?_
    refine lv_aload_n hx hb dX10_back_24 rfl (lv_at hl 0 rfl) ?_
    refine va_get (D := (dC, dI)) (ci := 10) (v := .int x3) (C := RX10) (T := TX10) (N := 50) hx hb hts iX10 hown hK hP 0 rfl rfl 16 (by decide) (hts (.fieldLink RX10 152 "NetHouseModel" "past" "I") (by decide +kernel)) (fun _ h9 => h9) rfl dX10_back_25 ?_
    refine lv_iadd hx hb dX10_back_28 ?_
    refine lv_sipush (v := 256) hx hb dX10_back_29 (by decide) ?_
    refine lv_irem hx hb dX10_back_32 (by decide) ?_
    refine lv_topi (fun x4 ex4 => ?_)
    have hw := hw x4 ex4
    refine lv_istore_n (lv' := [(1, .int x4), (0, .ref h_p0)]) hx hb dX10_back_33 rfl hl (by decide) rfl (fun ls hl => ?_)
    refine lv_iconst (v := 0) hx hb dX10_back_34 (by decide) ?_
    refine lv_istore_n (lv' := [(2, .int (0 : Int32)), (1, .int x4), (0, .ref h_p0)]) hx hb dX10_back_35 rfl hl (by decide) rfl (fun ls hl => ?_)
    obtain ⟨n8, hw⟩ := hw
    refine c_X10_back_L36 (l := l) (z_p0_has := p0_has) E0 ?_ n8 _ _ hw _ _ _ hP hD hS (lv_sub hl [2, 1, 0] rfl)
    · intro v9 s10 H locs ls hw hP hD hS hl
      have hP : va_P (dC, dI) vwCl (wld_X10_back cI cJ cZ h_p0 ad_p0 p0_places p0_steps p0_pastFirst x3 p0_goings p0_rowSize p0_ways p0_hasField p0_fieldSize p0_faultNow p0_hasTree p0_treeSize p0_weightCount p0_roundCount p0_setCount s10 p0_pastHas p0_pastStep p0_pastThings p0_things) H := hP
      have hD : va_D A (wld_X10_back cI cJ cZ h_p0 ad_p0 p0_places p0_steps p0_pastFirst x3 p0_goings p0_rowSize p0_ways p0_hasField p0_fieldSize p0_faultNow p0_hasTree p0_treeSize p0_weightCount p0_roundCount p0_setCount s10 p0_pastHas p0_pastStep p0_pastThings p0_things) := hD
      refine lv_iconst (v := 0) hx hb dX10_back_65 (by decide) ?_
      refine lv_istore_n (lv' := [(2, .int (0 : Int32)), (0, .ref h_p0), (1, .int x4)]) hx hb dX10_back_66 rfl hl (by decide) rfl (fun ls hl => ?_)
      obtain ⟨n14, hw⟩ := hw
      refine c_X10_back_L67 (l := l) (z_p0_things := p0_things) E0 ?_ n14 _ _ hw _ _ _ hP hD hS (lv_sub hl [1, 2, 0] rfl)
      · intro v15 s16 H locs ls hw hP hD hS hl
        have hP : va_P (dC, dI) vwCl (wld_X10_back cI cJ cZ h_p0 ad_p0 p0_places p0_steps p0_pastFirst x3 p0_goings p0_rowSize p0_ways p0_hasField p0_fieldSize p0_faultNow p0_hasTree p0_treeSize p0_weightCount p0_roundCount p0_setCount s10 p0_pastHas p0_pastStep p0_pastThings s16) H := hP
        have hD : va_D A (wld_X10_back cI cJ cZ h_p0 ad_p0 p0_places p0_steps p0_pastFirst x3 p0_goings p0_rowSize p0_ways p0_hasField p0_fieldSize p0_faultNow p0_hasTree p0_treeSize p0_weightCount p0_roundCount p0_setCount s10 p0_pastHas p0_pastStep p0_pastThings s16) := hD
        refine lv_aload_n hx hb dX10_back_98 rfl (lv_at hl 0 rfl) ?_
        refine va_get (D := (dC, dI)) (ci := 10) (v := .ref (ad_p0 12)) (C := RX10) (T := TX10) (N := 50) hx hb hts iX10 hown hK hP 0 rfl rfl 12 (by decide) (hts (.fieldLink RX10 40 "NetHouseModel" "pastStep" "[I") (by decide +kernel)) (fun _ h9 => h9) rfl dX10_back_99 ?_
        refine lv_iload_n hx hb dX10_back_102 rfl (lv_at hl 1 rfl) ?_
        refine va_iald hx hb hK hP 3 0 rfl rfl hw.1 dX10_back_103 ?_
        have hw := hw.2
        exact x_iret (w1 := fun (u : (Int32) × (Nat → Int32) × (Nat → Int32)) => (wld_X10_back cI cJ cZ h_p0 ad_p0 p0_places p0_steps p0_pastFirst (u.1) p0_goings p0_rowSize p0_ways p0_hasField p0_fieldSize p0_faultNow p0_hasTree p0_treeSize p0_weightCount p0_roundCount p0_setCount (u.2.1) p0_pastHas p0_pastStep p0_pastThings (u.2.2))) hx hb hr hlocks (x3, s10, s16) hw hP hD hS dX10_back_104
  · have hw := hw.2 c2
    refine lv_ldc (v := -2000000002) hx hb hown (hts (.constant RX10 171 (-2000000002)) (by decide +kernel)) dX10_back_7 ?_
    exact x_iret (w1 := fun (u : (Int32) × (Nat → Int32) × (Nat → Int32)) => (wld_X10_back cI cJ cZ h_p0 ad_p0 p0_places p0_steps p0_pastFirst (u.1) p0_goings p0_rowSize p0_ways p0_hasField p0_fieldSize p0_faultNow p0_hasTree p0_treeSize p0_weightCount p0_roundCount p0_setCount (u.2.1) p0_pastHas p0_pastStep p0_pastThings (u.2.2))) hx hb hr hlocks (p0_past, p0_has, p0_things) hw hP hD hS dX10_back_9
abbrev wld_X10_row (cI cJ cZ : ClassId) (h_p0 : Nat) (ad_p0 : Nat → Nat) (p0_places : Int32) (p0_steps : Int32) (p0_pastFirst : Int32) (p0_past : Int32) (p0_goings : Int32) (p0_rowSize : Int32) (p0_ways : Int32) (p0_hasField : Int32) (p0_fieldSize : Int32) (p0_faultNow : Int32) (p0_hasTree : Int32) (p0_treeSize : Int32) (p0_weightCount : Int32) (p0_roundCount : Int32) (p0_setCount : Int32) (p0_row : Nat → Int32) : va_W := [(h_p0, .inr (10, [.int p0_places, .int p0_steps, .ref (ad_p0 2), .ref (ad_p0 3), .ref (ad_p0 4), .ref (ad_p0 5), .ref (ad_p0 6), .ref (ad_p0 7), .ref (ad_p0 8), .ref (ad_p0 9), .ref (ad_p0 10), .ref (ad_p0 11), .ref (ad_p0 12), .ref (ad_p0 13), .ref (ad_p0 14), .int p0_pastFirst, .int p0_past, .int p0_goings, .int p0_rowSize, .ref (ad_p0 19), .ref (ad_p0 20), .int p0_ways, .ref (ad_p0 22), .ref (ad_p0 23), .int p0_hasField, .int p0_fieldSize, .ref (ad_p0 26), .ref (ad_p0 27), .ref (ad_p0 28), .ref (ad_p0 29), .ref (ad_p0 30), .ref (ad_p0 31), .ref (ad_p0 32), .int p0_faultNow, .int p0_hasTree, .int p0_treeSize, .ref (ad_p0 36), .ref (ad_p0 37), .ref (ad_p0 38), .ref (ad_p0 39), .ref (ad_p0 40), .ref (ad_p0 41), .ref (ad_p0 42), .int p0_weightCount, .ref (ad_p0 44), .int p0_roundCount, .ref (ad_p0 46), .int p0_setCount, .ref (ad_p0 48), .ref (ad_p0 49)])), ((ad_p0 19), .inl (cI, 16, .inl p0_row))]
abbrev q_X10_row (dC : Nat → ClassId) (dI : Nat → Nat → Nat) (cI cJ cZ : ClassId) (h_p0 : Nat) (ad_p0 : Nat → Nat) (p0_places : Int32) (p0_steps : Int32) (p0_pastFirst : Int32) (p0_past : Int32) (p0_goings : Int32) (p0_rowSize : Int32) (p0_ways : Int32) (p0_hasField : Int32) (p0_fieldSize : Int32) (p0_faultNow : Int32) (p0_hasTree : Int32) (p0_treeSize : Int32) (p0_weightCount : Int32) (p0_roundCount : Int32) (p0_setCount : Int32) (p0_row : Nat → Int32) (post : Int32 → (Int32) → (Nat → Int32) → Prop) (A : Nat → Prop) : Array Value → State → Outcome → State → Prop := va_Qi (fun r (u : (Int32) × (Nat → Int32)) => post r (u.1) (u.2)) (fun (u : (Int32) × (Nat → Int32)) t => xPost (dC, dI) A (wld_X10_row cI cJ cZ h_p0 ad_p0 p0_places p0_steps p0_pastFirst p0_past p0_goings (u.1) p0_ways p0_hasField p0_fieldSize p0_faultNow p0_hasTree p0_treeSize p0_weightCount p0_roundCount p0_setCount (u.2)) t) A
def w_X10_row_L20b (v1 : Int32) (p0_rowSize : Int32) (post : Int32 → (Int32) → (Nat → Int32) → Prop) (K : (Int32) → (Nat → Int32) → Prop) (rec : (Int32) → (Nat → Int32) → Prop) (v2 : Int32) (p0_row : Nat → Int32) : Prop :=
    ((16 : Int32) ≤ v2 →
      K v2 p0_row) ∧
    (¬ (16 : Int32) ≤ v2 →
      vp_in v2 16 ∧
      ∀ x6 : Int32, x6 = v2 + (1 : Int32) →
      rec x6 (upd p0_row v2.toNatClampNeg (0 : Int32)))
def w_X10_row_L20 (v1 : Int32) (p0_rowSize : Int32) (post : Int32 → (Int32) → (Nat → Int32) → Prop) (K : (Int32) → (Nat → Int32) → Prop) : Nat → (Int32) → (Nat → Int32) → Prop
  | 0, _, _ => False
  | n + 1, v2, p0_row => w_X10_row_L20b v1 p0_rowSize post K (w_X10_row_L20 v1 p0_rowSize post K n) v2 p0_row
def w_X10_row (p0_rowSize : Int32) (p0_row : Nat → Int32) (a1 : Int32) (post : Int32 → (Int32) → (Nat → Int32) → Prop) : Prop :=
  w_X10_isIn a1 (0 : Int32) (16 : Int32) (fun r1 =>
  (¬ r1 = 0 →
    ∃ n : Nat, w_X10_row_L20 a1 a1 post (fun v8 s9 =>
        (post a1 a1 s9)) n (0 : Int32) p0_row) ∧
  (r1 = 0 →
    (post (-2000000001 : Int32) p0_rowSize p0_row)))
set_option maxHeartbeats 4000000 in
set_option maxRecDepth 100000 in
theorem c_X10_row_L20 {p : Program} {l : Launch} {e : Env} {s : State} {m : MethodId} {args : Array Value} {below : List Frame} {meth : Method} {c : Code} {dC : Nat → ClassId} {dI : Nat → Nat → Nat} {A : Nat → Prop} {cI cJ cZ : ClassId} {h_p0 : Nat} {ad_p0 : Nat → Nat} {p0_places : Int32} {p0_steps : Int32} {p0_pastFirst : Int32} {p0_past : Int32} {p0_goings : Int32} {p0_rowSize : Int32} {p0_ways : Int32} {p0_hasField : Int32} {p0_fieldSize : Int32} {p0_faultNow : Int32} {p0_hasTree : Int32} {p0_treeSize : Int32} {p0_weightCount : Int32} {p0_roundCount : Int32} {p0_setCount : Int32} {v1 : Int32} {z_p0_row : Nat → Int32} {post : Int32 → (Int32) → (Nat → Int32) → Prop} {K : (Int32) → (Nat → Int32) → Prop} (E0 : xEnv p s m args meth c cX10_row (some .int) 3 RX10 wsX10_row (dC, dI) cI cJ cZ A) (hk : ∀ (v2 : Int32) (p0_row : Nat → Int32) (H : Heap) (locs : List Loc) (ls : Array Slot), K v2 p0_row → va_P (dC, dI) vwCl (wld_X10_row cI cJ cZ h_p0 ad_p0 p0_places p0_steps p0_pastFirst p0_past p0_goings p0_rowSize p0_ways p0_hasField p0_fieldSize p0_faultNow p0_hasTree p0_treeSize p0_weightCount p0_roundCount p0_setCount p0_row) H → va_D A (wld_X10_row cI cJ cZ h_p0 ad_p0 p0_places p0_steps p0_pastFirst p0_past p0_goings p0_rowSize p0_ways p0_hasField p0_fieldSize p0_faultNow p0_hasTree p0_treeSize p0_weightCount p0_roundCount p0_setCount p0_row) → va_S A s.heap H locs → lv_has ls 3 [(1, .int v1)] → W p l e ({ frames := 1, cells := 0, slots := 0, locals := 22 }) s m args below meth c H locs 0 0 (MQ below (q_X10_row dC dI cI cJ cZ h_p0 ad_p0 p0_places p0_steps p0_pastFirst p0_past p0_goings p0_rowSize p0_ways p0_hasField p0_fieldSize p0_faultNow p0_hasTree p0_treeSize p0_weightCount p0_roundCount p0_setCount z_p0_row post A) args s 0 0 A) (F0 m 39 ls [])) : ∀ (n : Nat) (v2 : Int32) (p0_row : Nat → Int32), w_X10_row_L20 v1 p0_rowSize post K n v2 p0_row → ∀ (H : Heap) (locs : List Loc) (ls : Array Slot), va_P (dC, dI) vwCl (wld_X10_row cI cJ cZ h_p0 ad_p0 p0_places p0_steps p0_pastFirst p0_past p0_goings p0_rowSize p0_ways p0_hasField p0_fieldSize p0_faultNow p0_hasTree p0_treeSize p0_weightCount p0_roundCount p0_setCount p0_row) H → va_D A (wld_X10_row cI cJ cZ h_p0 ad_p0 p0_places p0_steps p0_pastFirst p0_past p0_goings p0_rowSize p0_ways p0_hasField p0_fieldSize p0_faultNow p0_hasTree p0_treeSize p0_weightCount p0_roundCount p0_setCount p0_row) → va_S A s.heap H locs → lv_has ls 3 [(0, .ref h_p0), (1, .int v1), (2, .int v2)] → W p l e ({ frames := 1, cells := 0, slots := 0, locals := 22 }) s m args below meth c H locs 0 0 (MQ below (q_X10_row dC dI cI cJ cZ h_p0 ad_p0 p0_places p0_steps p0_pastFirst p0_past p0_goings p0_rowSize p0_ways p0_hasField p0_fieldSize p0_faultNow p0_hasTree p0_treeSize p0_weightCount p0_roundCount p0_setCount z_p0_row post A) args s 0 0 A) (F0 m 20 ls []) := by
  obtain ⟨hx, hb, hr, hml, hown, hts, hlocks, hK, hA, n1, n2⟩ := id E0
  have iX10 : ∀ w ∈ u_ws RX10 TX10 50, w ∈ wsX10_row := fun w h => List.mem_cons_of_mem _ (List.mem_append_right _ h)
  intro n
  induction n with
  | zero => intro v2 p0_row hw; exact hw.elim
  | succ n ih =>
    intro v2 p0_row hw H locs ls hP hD hS hl
    have hw : w_X10_row_L20b v1 p0_rowSize post K (w_X10_row_L20 v1 p0_rowSize post K n) v2 p0_row := hw
    unfold w_X10_row_L20b at hw
    refine lv_iload_n hx hb dX10_row_20 rfl (lv_at hl 2 rfl) ?_
    refine lv_bipush (v := 16) hx hb dX10_row_21 (by decide) ?_
    refine lv_icmp_ge (tgt := 39) hx hb dX10_row_23 (by decide) (fun c4 => ?_) (fun c5 => ?_)
    · have hw := hw.1 c4
      exact hk _ _ _ _ _ hw hP hD hS (lv_sub hl [1] rfl)
    · have hw := hw.2 c5
      refine lv_aload_n hx hb dX10_row_26 rfl (lv_at hl 0 rfl) ?_
      refine va_get (D := (dC, dI)) (ci := 10) (v := .ref (ad_p0 19)) (C := RX10) (T := TX10) (N := 50) hx hb hts iX10 hown hK hP 0 rfl rfl 19 (by decide) (hts (.fieldLink RX10 50 "NetHouseModel" "row" "[I") (by decide +kernel)) (fun _ h9 => h9) rfl dX10_row_27 ?_
      refine lv_iload_n hx hb dX10_row_30 rfl (lv_at hl 2 rfl) ?_
      refine lv_iconst (v := 0) hx hb dX10_row_31 (by decide) ?_
      refine va_iast hx hb hK hP hD hS 1 0 rfl rfl hw.1 dX10_row_32 (fun H locs hP hD hS => ?_)
      have hw := hw.2
      have hP : va_P (dC, dI) vwCl (wld_X10_row cI cJ cZ h_p0 ad_p0 p0_places p0_steps p0_pastFirst p0_past p0_goings p0_rowSize p0_ways p0_hasField p0_fieldSize p0_faultNow p0_hasTree p0_treeSize p0_weightCount p0_roundCount p0_setCount (upd p0_row v2.toNatClampNeg (0 : Int32))) H := hP
      have hD : va_D A (wld_X10_row cI cJ cZ h_p0 ad_p0 p0_places p0_steps p0_pastFirst p0_past p0_goings p0_rowSize p0_ways p0_hasField p0_fieldSize p0_faultNow p0_hasTree p0_treeSize p0_weightCount p0_roundCount p0_setCount (upd p0_row v2.toNatClampNeg (0 : Int32))) := hD
      obtain ⟨x6, ex6⟩ : ∃ y : Int32, y = v2 + (1 : Int32) := ⟨_, rfl⟩
      have hw := hw x6 ex6
      refine lv_iinc (v := x6) (lv' := [(2, .int x6), (0, .ref h_p0), (1, .int v1)]) hx hb dX10_row_33 hl (k := 2) rfl (by rw [ex6]; rfl) (by decide) rfl (fun ls hl => ?_)
      refine lv_goto (tgt := 20) hx hb dX10_row_36 (by decide) ?_
      exact ih _ _ hw _ _ _ hP hD hS (lv_sub hl [1, 2, 0] rfl)
set_option maxHeartbeats 4000000 in
set_option maxRecDepth 100000 in
theorem c_X10_row {l : Launch} {dC : Nat → ClassId} {dI : Nat → Nat → Nat} {sz : Nat} {cI cJ cZ : ClassId} {h_p0 : Nat} {ad_p0 : Nat → Nat} {p0_places : Int32} {p0_steps : Int32} {p0_pastFirst : Int32} {p0_past : Int32} {p0_goings : Int32} {p0_rowSize : Int32} {p0_ways : Int32} {p0_hasField : Int32} {p0_fieldSize : Int32} {p0_faultNow : Int32} {p0_hasTree : Int32} {p0_treeSize : Int32} {p0_weightCount : Int32} {p0_roundCount : Int32} {p0_setCount : Int32} {p0_row : Nat → Int32} {a1 : Int32} {post : Int32 → (Int32) → (Nat → Int32) → Prop} (hw : w_X10_row p0_rowSize p0_row a1 post) : Met l yX10_row wsX10_row ({ frames := 1, cells := 0, slots := 0, locals := 22 }) (va_Pc [.ref h_p0, .int a1] (xPre (dC, dI) cI cJ cZ (wld_X10_row cI cJ cZ h_p0 ad_p0 p0_places p0_steps p0_pastFirst p0_past p0_goings p0_rowSize p0_ways p0_hasField p0_fieldSize p0_faultNow p0_hasTree p0_treeSize p0_weightCount p0_roundCount p0_setCount p0_row) sz)) (q_X10_row dC dI cI cJ cZ h_p0 ad_p0 p0_places p0_steps p0_pastFirst p0_past p0_goings p0_rowSize p0_ways p0_hasField p0_fieldSize p0_faultNow p0_hasTree p0_treeSize p0_weightCount p0_roundCount p0_setCount p0_row post (va_A (wld_X10_row cI cJ cZ h_p0 ad_p0 p0_places p0_steps p0_pastFirst p0_past p0_goings p0_rowSize p0_ways p0_hasField p0_fieldSize p0_faultNow p0_hasTree p0_treeSize p0_weightCount p0_roundCount p0_setCount p0_row) sz)) 0 0 (va_A (wld_X10_row cI cJ cZ h_p0 ad_p0 p0_places p0_steps p0_pastFirst p0_past p0_goings p0_rowSize p0_ways p0_hasField p0_fieldSize p0_faultNow p0_hasTree p0_treeSize p0_weightCount p0_roundCount p0_setCount p0_row) sz) := by
  refine x_met (cc := cX10_row) (maxL := 3) (ret := (some .int)) (own := RX10) (Qc := fun A => (q_X10_row dC dI cI cJ cZ h_p0 ad_p0 p0_places p0_steps p0_pastFirst p0_past p0_goings p0_rowSize p0_ways p0_hasField p0_fieldSize p0_faultNow p0_hasTree p0_treeSize p0_weightCount p0_roundCount p0_setCount p0_row post A)) (by decide) rfl rfl (Nat.le_of_ble_eq_true rfl) ?_
  intro p e s m args below meth c A ls E0 hP hD hS hl
  obtain ⟨hx, hb, hr, hml, hown, hts, hlocks, hK, hA, n1, n2⟩ := id E0
  have iX10 : ∀ w ∈ u_ws RX10 TX10 50, w ∈ wsX10_row := fun w h => List.mem_cons_of_mem _ (List.mem_append_right _ h)
  have hS0 := hS
  have hl : lv_has ls 3 [(0, .ref h_p0), (1, .int a1)] := hl
  unfold w_X10_row at hw
  obtain ⟨H, hH⟩ : ∃ H, H = s.heap := ⟨_, rfl⟩
  have hS : va_S A s.heap H [] := by rw [hH]; exact hS
  have hP : va_P (dC, dI) vwCl (wld_X10_row cI cJ cZ h_p0 ad_p0 p0_places p0_steps p0_pastFirst p0_past p0_goings p0_rowSize p0_ways p0_hasField p0_fieldSize p0_faultNow p0_hasTree p0_treeSize p0_weightCount p0_roundCount p0_setCount p0_row) H := by rw [hH]; exact hP
  suffices hG : W p l e ({ frames := 1, cells := 0, slots := 0, locals := 22 }) s m args below meth c H [] 0 0 (MQ below (q_X10_row dC dI cI cJ cZ h_p0 ad_p0 p0_places p0_steps p0_pastFirst p0_past p0_goings p0_rowSize p0_ways p0_hasField p0_fieldSize p0_faultNow p0_hasTree p0_treeSize p0_weightCount p0_roundCount p0_setCount p0_row post A) args s 0 0 A) (F0 m 0 ls []) by rw [hH] at hG; exact hG
  clear hH
  refine lv_iload_n hx hb dX10_row_0 rfl (lv_at hl 1 rfl) ?_
  refine lv_iconst (v := 0) hx hb dX10_row_1 (by decide) ?_
  refine lv_bipush (v := 16) hx hb dX10_row_2 (by decide) ?_
  obtain ⟨hPc, hDc⟩ := x_sub (wc := (wld_X10_isIn cI cJ cZ )) hP hD [] (n := 2) rfl rfl (by decide +kernel)
  refine x_calli (ws' := fun (u : Unit) => (wld_X10_row cI cJ cZ h_p0 ad_p0 p0_places p0_steps p0_pastFirst p0_past p0_goings p0_rowSize p0_ways p0_hasField p0_fieldSize p0_faultNow p0_hasTree p0_treeSize p0_weightCount p0_roundCount p0_setCount p0_row)) hP hD hS hA [] [0, 1] [0, 1] (n := 2) (k := 0) rfl (fun _ => rfl) rfl (by decide +kernel) (fun _ => rfl) (va_runS (As := [.int a1, .int (0 : Int32), .int (16 : Int32)]) (rest := []) ⟨hx, hb, hml, hown, hts⟩ (c_X10_isIn (l := l) (dC := dC) (dI := dI) (cI := cI) (cJ := cJ) (cZ := cZ) (sz := H.size) hw) (va_cwS 3 hts gX10_row_X10_isIn rfl rfl rfl (by decide +kernel) ⟨Nat.le_of_ble_eq_true rfl, Nat.le_of_ble_eq_true rfl⟩) ⟨xPre_blind, xPre_at hK hPc hDc n1 n2⟩ rfl rfl hl.1 rfl (lv_room (Nat.le_of_ble_eq_true rfl)) dX10_row_4 ⟨Nat.zero_le _, Nat.zero_le _⟩) (fun r1 u H locs hw hP hD hS => ?_)
  try dsimp only at hw
  have hP : va_P (dC, dI) vwCl (wld_X10_row cI cJ cZ h_p0 ad_p0 p0_places p0_steps p0_pastFirst p0_past p0_goings p0_rowSize p0_ways p0_hasField p0_fieldSize p0_faultNow p0_hasTree p0_treeSize p0_weightCount p0_roundCount p0_setCount p0_row) H := hP
  have hD : va_D A (wld_X10_row cI cJ cZ h_p0 ad_p0 p0_places p0_steps p0_pastFirst p0_past p0_goings p0_rowSize p0_ways p0_hasField p0_fieldSize p0_faultNow p0_hasTree p0_treeSize p0_weightCount p0_roundCount p0_setCount p0_row) := hD
  refine lv_if_ne (tgt := 13) hx hb dX10_row_7 (by decide) (fun c2 => ?_) (fun c3 => ?_)
  · have hw := hw.1 c2
    refine lv_aload_n hx hb dX10_row_13 rfl (lv_at hl 0 rfl) ?_
    refine lv_iload_n hx hb dX10_row_14 rfl (lv_at hl 1 rfl) ?_
    refine va_put (D := (dC, dI)) (ci := 10) (v := .int a1) (ty := .int) (C := RX10) (T := TX10) (N := 50) hx hb hts iX10 tyX10 tyX10_ok nmX10 hown hK hP hD hS 0 rfl rfl 18 (by decide) (hts (.fieldLink RX10 221 "NetHouseModel" "rowSize" "I") (by decide +kernel)) (fun _ h9 => h9) rfl (by decide +kernel) rfl rfl (Nat.le_of_ble_eq_true rfl) dX10_row_15 (fun H locs hP hD hS => ?_)
    have hP : va_P (dC, dI) vwCl (wld_X10_row cI cJ cZ h_p0 ad_p0 p0_places p0_steps p0_pastFirst p0_past p0_goings a1 p0_ways p0_hasField p0_fieldSize p0_faultNow p0_hasTree p0_treeSize p0_weightCount p0_roundCount p0_setCount p0_row) H := hP
    have hD : va_D A (wld_X10_row cI cJ cZ h_p0 ad_p0 p0_places p0_steps p0_pastFirst p0_past p0_goings a1 p0_ways p0_hasField p0_fieldSize p0_faultNow p0_hasTree p0_treeSize p0_weightCount p0_roundCount p0_setCount p0_row) := hD
    refine lv_iconst (v := 0) hx hb dX10_row_18 (by decide) ?_
    refine lv_istore_n (lv' := [(2, .int (0 : Int32)), (0, .ref h_p0), (1, .int a1)]) hx hb dX10_row_19 rfl hl (by decide) rfl (fun ls hl => ?_)
    obtain ⟨n7, hw⟩ := hw
    refine c_X10_row_L20 (l := l) (z_p0_row := p0_row) E0 ?_ n7 _ _ hw _ _ _ hP hD hS (lv_sub hl [1, 2, 0] rfl)
    · intro v8 s9 H locs ls hw hP hD hS hl
      have hP : va_P (dC, dI) vwCl (wld_X10_row cI cJ cZ h_p0 ad_p0 p0_places p0_steps p0_pastFirst p0_past p0_goings a1 p0_ways p0_hasField p0_fieldSize p0_faultNow p0_hasTree p0_treeSize p0_weightCount p0_roundCount p0_setCount s9) H := hP
      have hD : va_D A (wld_X10_row cI cJ cZ h_p0 ad_p0 p0_places p0_steps p0_pastFirst p0_past p0_goings a1 p0_ways p0_hasField p0_fieldSize p0_faultNow p0_hasTree p0_treeSize p0_weightCount p0_roundCount p0_setCount s9) := hD
      refine lv_iload_n hx hb dX10_row_39 rfl (lv_at hl 0 rfl) ?_
      exact x_iret (w1 := fun (u : (Int32) × (Nat → Int32)) => (wld_X10_row cI cJ cZ h_p0 ad_p0 p0_places p0_steps p0_pastFirst p0_past p0_goings (u.1) p0_ways p0_hasField p0_fieldSize p0_faultNow p0_hasTree p0_treeSize p0_weightCount p0_roundCount p0_setCount (u.2))) hx hb hr hlocks (a1, s9) hw hP hD hS dX10_row_40
  · have hw := hw.2 c3
    refine lv_ldc (v := -2000000001) hx hb hown (hts (.constant RX10 159 (-2000000001)) (by decide +kernel)) dX10_row_10 ?_
    exact x_iret (w1 := fun (u : (Int32) × (Nat → Int32)) => (wld_X10_row cI cJ cZ h_p0 ad_p0 p0_places p0_steps p0_pastFirst p0_past p0_goings (u.1) p0_ways p0_hasField p0_fieldSize p0_faultNow p0_hasTree p0_treeSize p0_weightCount p0_roundCount p0_setCount (u.2))) hx hb hr hlocks (p0_rowSize, p0_row) hw hP hD hS dX10_row_12
abbrev wld_X10_set (cI cJ cZ : ClassId) (h_p0 : Nat) (ad_p0 : Nat → Nat) (p0_places : Int32) (p0_steps : Int32) (p0_pastFirst : Int32) (p0_past : Int32) (p0_goings : Int32) (p0_rowSize : Int32) (p0_ways : Int32) (p0_hasField : Int32) (p0_fieldSize : Int32) (p0_faultNow : Int32) (p0_hasTree : Int32) (p0_treeSize : Int32) (p0_weightCount : Int32) (p0_roundCount : Int32) (p0_setCount : Int32) (p0_row : Nat → Int32) : va_W := [(h_p0, .inr (10, [.int p0_places, .int p0_steps, .ref (ad_p0 2), .ref (ad_p0 3), .ref (ad_p0 4), .ref (ad_p0 5), .ref (ad_p0 6), .ref (ad_p0 7), .ref (ad_p0 8), .ref (ad_p0 9), .ref (ad_p0 10), .ref (ad_p0 11), .ref (ad_p0 12), .ref (ad_p0 13), .ref (ad_p0 14), .int p0_pastFirst, .int p0_past, .int p0_goings, .int p0_rowSize, .ref (ad_p0 19), .ref (ad_p0 20), .int p0_ways, .ref (ad_p0 22), .ref (ad_p0 23), .int p0_hasField, .int p0_fieldSize, .ref (ad_p0 26), .ref (ad_p0 27), .ref (ad_p0 28), .ref (ad_p0 29), .ref (ad_p0 30), .ref (ad_p0 31), .ref (ad_p0 32), .int p0_faultNow, .int p0_hasTree, .int p0_treeSize, .ref (ad_p0 36), .ref (ad_p0 37), .ref (ad_p0 38), .ref (ad_p0 39), .ref (ad_p0 40), .ref (ad_p0 41), .ref (ad_p0 42), .int p0_weightCount, .ref (ad_p0 44), .int p0_roundCount, .ref (ad_p0 46), .int p0_setCount, .ref (ad_p0 48), .ref (ad_p0 49)])), ((ad_p0 19), .inl (cI, 16, .inl p0_row))]
abbrev q_X10_set (dC : Nat → ClassId) (dI : Nat → Nat → Nat) (cI cJ cZ : ClassId) (h_p0 : Nat) (ad_p0 : Nat → Nat) (p0_places : Int32) (p0_steps : Int32) (p0_pastFirst : Int32) (p0_past : Int32) (p0_goings : Int32) (p0_rowSize : Int32) (p0_ways : Int32) (p0_hasField : Int32) (p0_fieldSize : Int32) (p0_faultNow : Int32) (p0_hasTree : Int32) (p0_treeSize : Int32) (p0_weightCount : Int32) (p0_roundCount : Int32) (p0_setCount : Int32) (p0_row : Nat → Int32) (post : Int32 → (Nat → Int32) → Prop) (A : Nat → Prop) : Array Value → State → Outcome → State → Prop := va_Qi (fun r (u : (Nat → Int32)) => post r u) (fun (u : (Nat → Int32)) t => xPost (dC, dI) A (wld_X10_set cI cJ cZ h_p0 ad_p0 p0_places p0_steps p0_pastFirst p0_past p0_goings p0_rowSize p0_ways p0_hasField p0_fieldSize p0_faultNow p0_hasTree p0_treeSize p0_weightCount p0_roundCount p0_setCount u) t) A
def w_X10_set (p0_rowSize : Int32) (p0_row : Nat → Int32) (a1 : Int32) (a2 : Int32) (post : Int32 → (Nat → Int32) → Prop) : Prop :=
  w_X10_isIn a1 (0 : Int32) (p0_rowSize - (1 : Int32)) (fun r1 =>
  (r1 = 0 →
    (post (-2000000001 : Int32) p0_row)) ∧
  (¬ r1 = 0 →
    w_X10_isIn a2 (-1000000000 : Int32) (1000000000 : Int32) (fun r4 =>
    (¬ r4 = 0 →
      vp_in a1 16 ∧
      ∀ x7 : Int32, x7 = (p0_row a1.toNatClampNeg) →
      vp_in a1 16 ∧
      (post x7 (upd p0_row a1.toNatClampNeg a2))) ∧
    (r4 = 0 →
      (post (-2000000001 : Int32) p0_row)))))
set_option maxHeartbeats 4000000 in
set_option maxRecDepth 100000 in
theorem c_X10_set {l : Launch} {dC : Nat → ClassId} {dI : Nat → Nat → Nat} {sz : Nat} {cI cJ cZ : ClassId} {h_p0 : Nat} {ad_p0 : Nat → Nat} {p0_places : Int32} {p0_steps : Int32} {p0_pastFirst : Int32} {p0_past : Int32} {p0_goings : Int32} {p0_rowSize : Int32} {p0_ways : Int32} {p0_hasField : Int32} {p0_fieldSize : Int32} {p0_faultNow : Int32} {p0_hasTree : Int32} {p0_treeSize : Int32} {p0_weightCount : Int32} {p0_roundCount : Int32} {p0_setCount : Int32} {p0_row : Nat → Int32} {a1 : Int32} {a2 : Int32} {post : Int32 → (Nat → Int32) → Prop} (hw : w_X10_set p0_rowSize p0_row a1 a2 post) : Met l yX10_set wsX10_set ({ frames := 1, cells := 0, slots := 0, locals := 22 }) (va_Pc [.ref h_p0, .int a1, .int a2] (xPre (dC, dI) cI cJ cZ (wld_X10_set cI cJ cZ h_p0 ad_p0 p0_places p0_steps p0_pastFirst p0_past p0_goings p0_rowSize p0_ways p0_hasField p0_fieldSize p0_faultNow p0_hasTree p0_treeSize p0_weightCount p0_roundCount p0_setCount p0_row) sz)) (q_X10_set dC dI cI cJ cZ h_p0 ad_p0 p0_places p0_steps p0_pastFirst p0_past p0_goings p0_rowSize p0_ways p0_hasField p0_fieldSize p0_faultNow p0_hasTree p0_treeSize p0_weightCount p0_roundCount p0_setCount p0_row post (va_A (wld_X10_set cI cJ cZ h_p0 ad_p0 p0_places p0_steps p0_pastFirst p0_past p0_goings p0_rowSize p0_ways p0_hasField p0_fieldSize p0_faultNow p0_hasTree p0_treeSize p0_weightCount p0_roundCount p0_setCount p0_row) sz)) 0 0 (va_A (wld_X10_set cI cJ cZ h_p0 ad_p0 p0_places p0_steps p0_pastFirst p0_past p0_goings p0_rowSize p0_ways p0_hasField p0_fieldSize p0_faultNow p0_hasTree p0_treeSize p0_weightCount p0_roundCount p0_setCount p0_row) sz) := by
  refine x_met (cc := cX10_set) (maxL := 4) (ret := (some .int)) (own := RX10) (Qc := fun A => (q_X10_set dC dI cI cJ cZ h_p0 ad_p0 p0_places p0_steps p0_pastFirst p0_past p0_goings p0_rowSize p0_ways p0_hasField p0_fieldSize p0_faultNow p0_hasTree p0_treeSize p0_weightCount p0_roundCount p0_setCount p0_row post A)) (by decide) rfl rfl (Nat.le_of_ble_eq_true rfl) ?_
  intro p e s m args below meth c A ls E0 hP hD hS hl
  obtain ⟨hx, hb, hr, hml, hown, hts, hlocks, hK, hA, n1, n2⟩ := id E0
  have iX10 : ∀ w ∈ u_ws RX10 TX10 50, w ∈ wsX10_set := fun w h => List.mem_cons_of_mem _ (List.mem_append_right _ h)
  have hS0 := hS
  have hl : lv_has ls 4 [(0, .ref h_p0), (1, .int a1), (2, .int a2)] := hl
  unfold w_X10_set at hw
  obtain ⟨H, hH⟩ : ∃ H, H = s.heap := ⟨_, rfl⟩
  have hS : va_S A s.heap H [] := by rw [hH]; exact hS
  have hP : va_P (dC, dI) vwCl (wld_X10_set cI cJ cZ h_p0 ad_p0 p0_places p0_steps p0_pastFirst p0_past p0_goings p0_rowSize p0_ways p0_hasField p0_fieldSize p0_faultNow p0_hasTree p0_treeSize p0_weightCount p0_roundCount p0_setCount p0_row) H := by rw [hH]; exact hP
  suffices hG : W p l e ({ frames := 1, cells := 0, slots := 0, locals := 22 }) s m args below meth c H [] 0 0 (MQ below (q_X10_set dC dI cI cJ cZ h_p0 ad_p0 p0_places p0_steps p0_pastFirst p0_past p0_goings p0_rowSize p0_ways p0_hasField p0_fieldSize p0_faultNow p0_hasTree p0_treeSize p0_weightCount p0_roundCount p0_setCount p0_row post A) args s 0 0 A) (F0 m 0 ls []) by rw [hH] at hG; exact hG
  clear hH
  refine lv_iload_n hx hb dX10_set_0 rfl (lv_at hl 1 rfl) ?_
  refine lv_iconst (v := 0) hx hb dX10_set_1 (by decide) ?_
  refine lv_aload_n hx hb dX10_set_2 rfl (lv_at hl 0 rfl) ?_
  refine va_get (D := (dC, dI)) (ci := 10) (v := .int p0_rowSize) (C := RX10) (T := TX10) (N := 50) hx hb hts iX10 hown hK hP 0 rfl rfl 18 (by decide) (hts (.fieldLink RX10 221 "NetHouseModel" "rowSize" "I") (by decide +kernel)) (fun _ h9 => h9) rfl dX10_set_3 ?_
  refine lv_iconst (v := 1) hx hb dX10_set_6 (by decide) ?_
  refine lv_isub hx hb dX10_set_7 ?_
  obtain ⟨hPc, hDc⟩ := x_sub (wc := (wld_X10_isIn cI cJ cZ )) hP hD [] (n := 2) rfl rfl (by decide +kernel)
  refine x_calli (ws' := fun (u : Unit) => (wld_X10_set cI cJ cZ h_p0 ad_p0 p0_places p0_steps p0_pastFirst p0_past p0_goings p0_rowSize p0_ways p0_hasField p0_fieldSize p0_faultNow p0_hasTree p0_treeSize p0_weightCount p0_roundCount p0_setCount p0_row)) hP hD hS hA [] [0, 1] [0, 1] (n := 2) (k := 0) rfl (fun _ => rfl) rfl (by decide +kernel) (fun _ => rfl) (va_runS (As := [.int a1, .int (0 : Int32), .int (p0_rowSize - (1 : Int32))]) (rest := []) ⟨hx, hb, hml, hown, hts⟩ (c_X10_isIn (l := l) (dC := dC) (dI := dI) (cI := cI) (cJ := cJ) (cZ := cZ) (sz := H.size) hw) (va_cwS 3 hts gX10_set_X10_isIn rfl rfl rfl (by decide +kernel) ⟨Nat.le_of_ble_eq_true rfl, Nat.le_of_ble_eq_true rfl⟩) ⟨xPre_blind, xPre_at hK hPc hDc n1 n2⟩ rfl rfl hl.1 rfl (lv_room (Nat.le_of_ble_eq_true rfl)) dX10_set_8 ⟨Nat.zero_le _, Nat.zero_le _⟩) (fun r1 u H locs hw hP hD hS => ?_)
  try dsimp only at hw
  have hP : va_P (dC, dI) vwCl (wld_X10_set cI cJ cZ h_p0 ad_p0 p0_places p0_steps p0_pastFirst p0_past p0_goings p0_rowSize p0_ways p0_hasField p0_fieldSize p0_faultNow p0_hasTree p0_treeSize p0_weightCount p0_roundCount p0_setCount p0_row) H := hP
  have hD : va_D A (wld_X10_set cI cJ cZ h_p0 ad_p0 p0_places p0_steps p0_pastFirst p0_past p0_goings p0_rowSize p0_ways p0_hasField p0_fieldSize p0_faultNow p0_hasTree p0_treeSize p0_weightCount p0_roundCount p0_setCount p0_row) := hD
  refine lv_if_eq (tgt := 25) hx hb dX10_set_11 (by decide) (fun c2 => ?_) (fun c3 => ?_)
  · have hw := hw.1 c2
    refine lv_ldc (v := -2000000001) hx hb hown (hts (.constant RX10 159 (-2000000001)) (by decide +kernel)) dX10_set_25 ?_
    exact x_iret (w1 := fun (u : (Nat → Int32)) => (wld_X10_set cI cJ cZ h_p0 ad_p0 p0_places p0_steps p0_pastFirst p0_past p0_goings p0_rowSize p0_ways p0_hasField p0_fieldSize p0_faultNow p0_hasTree p0_treeSize p0_weightCount p0_roundCount p0_setCount u)) hx hb hr hlocks (p0_row) hw hP hD hS dX10_set_27
  · have hw := hw.2 c3
    refine lv_iload_n hx hb dX10_set_14 rfl (lv_at hl 2 rfl) ?_
    refine lv_ldc (v := -1000000000) hx hb hown (hts (.constant RX10 224 (-1000000000)) (by decide +kernel)) dX10_set_15 ?_
    refine lv_ldc (v := 1000000000) hx hb hown (hts (.constant RX10 200 (1000000000)) (by decide +kernel)) dX10_set_17 ?_
    obtain ⟨hPc, hDc⟩ := x_sub (wc := (wld_X10_isIn cI cJ cZ )) hP hD [] (n := 2) rfl rfl (by decide +kernel)
    refine x_calli (ws' := fun (u : Unit) => (wld_X10_set cI cJ cZ h_p0 ad_p0 p0_places p0_steps p0_pastFirst p0_past p0_goings p0_rowSize p0_ways p0_hasField p0_fieldSize p0_faultNow p0_hasTree p0_treeSize p0_weightCount p0_roundCount p0_setCount p0_row)) hP hD hS hA [] [0, 1] [0, 1] (n := 2) (k := 0) rfl (fun _ => rfl) rfl (by decide +kernel) (fun _ => rfl) (va_runS (As := [.int a2, .int (-1000000000 : Int32), .int (1000000000 : Int32)]) (rest := []) ⟨hx, hb, hml, hown, hts⟩ (c_X10_isIn (l := l) (dC := dC) (dI := dI) (cI := cI) (cJ := cJ) (cZ := cZ) (sz := H.size) hw) (va_cwS 3 hts gX10_set_X10_isIn rfl rfl rfl (by decide +kernel) ⟨Nat.le_of_ble_eq_true rfl, Nat.le_of_ble_eq_true rfl⟩) ⟨xPre_blind, xPre_at hK hPc hDc n1 n2⟩ rfl rfl hl.1 rfl (lv_room (Nat.le_of_ble_eq_true rfl)) dX10_set_19 ⟨Nat.zero_le _, Nat.zero_le _⟩) (fun r4 u H locs hw hP hD hS => ?_)
    try dsimp only at hw
    have hP : va_P (dC, dI) vwCl (wld_X10_set cI cJ cZ h_p0 ad_p0 p0_places p0_steps p0_pastFirst p0_past p0_goings p0_rowSize p0_ways p0_hasField p0_fieldSize p0_faultNow p0_hasTree p0_treeSize p0_weightCount p0_roundCount p0_setCount p0_row) H := hP
    have hD : va_D A (wld_X10_set cI cJ cZ h_p0 ad_p0 p0_places p0_steps p0_pastFirst p0_past p0_goings p0_rowSize p0_ways p0_hasField p0_fieldSize p0_faultNow p0_hasTree p0_treeSize p0_weightCount p0_roundCount p0_setCount p0_row) := hD
    refine lv_if_ne (tgt := 28) hx hb dX10_set_22 (by decide) (fun c5 => ?_) (fun c6 => ?_)
    · have hw := hw.1 c5
      refine lv_aload_n hx hb dX10_set_28 rfl (lv_at hl 0 rfl) ?_
      refine va_get (D := (dC, dI)) (ci := 10) (v := .ref (ad_p0 19)) (C := RX10) (T := TX10) (N := 50) hx hb hts iX10 hown hK hP 0 rfl rfl 19 (by decide) (hts (.fieldLink RX10 50 "NetHouseModel" "row" "[I") (by decide +kernel)) (fun _ h9 => h9) rfl dX10_set_29 ?_
      refine lv_iload_n hx hb dX10_set_32 rfl (lv_at hl 1 rfl) ?_
      refine va_iald hx hb hK hP 1 0 rfl rfl hw.1 dX10_set_33 ?_
      have hw := hw.2
      refine lv_topi (fun x7 ex7 => ?_)
      have hw := hw x7 ex7
      refine lv_istore_n (lv' := [(3, .int x7), (0, .ref h_p0), (1, .int a1), (2, .int a2)]) hx hb dX10_set_34 rfl hl (by decide) rfl (fun ls hl => ?_)
      refine lv_aload_n hx hb dX10_set_35 rfl (lv_at hl 1 rfl) ?_
      refine va_get (D := (dC, dI)) (ci := 10) (v := .ref (ad_p0 19)) (C := RX10) (T := TX10) (N := 50) hx hb hts iX10 hown hK hP 0 rfl rfl 19 (by decide) (hts (.fieldLink RX10 50 "NetHouseModel" "row" "[I") (by decide +kernel)) (fun _ h9 => h9) rfl dX10_set_36 ?_
      refine lv_iload_n hx hb dX10_set_39 rfl (lv_at hl 2 rfl) ?_
      refine lv_iload_n hx hb dX10_set_40 rfl (lv_at hl 3 rfl) ?_
      refine va_iast hx hb hK hP hD hS 1 0 rfl rfl hw.1 dX10_set_41 (fun H locs hP hD hS => ?_)
      have hw := hw.2
      have hP : va_P (dC, dI) vwCl (wld_X10_set cI cJ cZ h_p0 ad_p0 p0_places p0_steps p0_pastFirst p0_past p0_goings p0_rowSize p0_ways p0_hasField p0_fieldSize p0_faultNow p0_hasTree p0_treeSize p0_weightCount p0_roundCount p0_setCount (upd p0_row a1.toNatClampNeg a2)) H := hP
      have hD : va_D A (wld_X10_set cI cJ cZ h_p0 ad_p0 p0_places p0_steps p0_pastFirst p0_past p0_goings p0_rowSize p0_ways p0_hasField p0_fieldSize p0_faultNow p0_hasTree p0_treeSize p0_weightCount p0_roundCount p0_setCount (upd p0_row a1.toNatClampNeg a2)) := hD
      refine lv_iload_n hx hb dX10_set_42 rfl (lv_at hl 0 rfl) ?_
      exact x_iret (w1 := fun (u : (Nat → Int32)) => (wld_X10_set cI cJ cZ h_p0 ad_p0 p0_places p0_steps p0_pastFirst p0_past p0_goings p0_rowSize p0_ways p0_hasField p0_fieldSize p0_faultNow p0_hasTree p0_treeSize p0_weightCount p0_roundCount p0_setCount u)) hx hb hr hlocks ((upd p0_row a1.toNatClampNeg a2)) hw hP hD hS dX10_set_43
    · have hw := hw.2 c6
      refine lv_ldc (v := -2000000001) hx hb hown (hts (.constant RX10 159 (-2000000001)) (by decide +kernel)) dX10_set_25 ?_
      exact x_iret (w1 := fun (u : (Nat → Int32)) => (wld_X10_set cI cJ cZ h_p0 ad_p0 p0_places p0_steps p0_pastFirst p0_past p0_goings p0_rowSize p0_ways p0_hasField p0_fieldSize p0_faultNow p0_hasTree p0_treeSize p0_weightCount p0_roundCount p0_setCount u)) hx hb hr hlocks (p0_row) hw hP hD hS dX10_set_27
abbrev wld_X10_get (cI cJ cZ : ClassId) (h_p0 : Nat) (ad_p0 : Nat → Nat) (p0_places : Int32) (p0_steps : Int32) (p0_pastFirst : Int32) (p0_past : Int32) (p0_goings : Int32) (p0_rowSize : Int32) (p0_ways : Int32) (p0_hasField : Int32) (p0_fieldSize : Int32) (p0_faultNow : Int32) (p0_hasTree : Int32) (p0_treeSize : Int32) (p0_weightCount : Int32) (p0_roundCount : Int32) (p0_setCount : Int32) (p0_row : Nat → Int32) : va_W := [(h_p0, .inr (10, [.int p0_places, .int p0_steps, .ref (ad_p0 2), .ref (ad_p0 3), .ref (ad_p0 4), .ref (ad_p0 5), .ref (ad_p0 6), .ref (ad_p0 7), .ref (ad_p0 8), .ref (ad_p0 9), .ref (ad_p0 10), .ref (ad_p0 11), .ref (ad_p0 12), .ref (ad_p0 13), .ref (ad_p0 14), .int p0_pastFirst, .int p0_past, .int p0_goings, .int p0_rowSize, .ref (ad_p0 19), .ref (ad_p0 20), .int p0_ways, .ref (ad_p0 22), .ref (ad_p0 23), .int p0_hasField, .int p0_fieldSize, .ref (ad_p0 26), .ref (ad_p0 27), .ref (ad_p0 28), .ref (ad_p0 29), .ref (ad_p0 30), .ref (ad_p0 31), .ref (ad_p0 32), .int p0_faultNow, .int p0_hasTree, .int p0_treeSize, .ref (ad_p0 36), .ref (ad_p0 37), .ref (ad_p0 38), .ref (ad_p0 39), .ref (ad_p0 40), .ref (ad_p0 41), .ref (ad_p0 42), .int p0_weightCount, .ref (ad_p0 44), .int p0_roundCount, .ref (ad_p0 46), .int p0_setCount, .ref (ad_p0 48), .ref (ad_p0 49)])), ((ad_p0 19), .inl (cI, 16, .inl p0_row))]
abbrev q_X10_get (dC : Nat → ClassId) (dI : Nat → Nat → Nat) (cI cJ cZ : ClassId) (h_p0 : Nat) (ad_p0 : Nat → Nat) (p0_places : Int32) (p0_steps : Int32) (p0_pastFirst : Int32) (p0_past : Int32) (p0_goings : Int32) (p0_rowSize : Int32) (p0_ways : Int32) (p0_hasField : Int32) (p0_fieldSize : Int32) (p0_faultNow : Int32) (p0_hasTree : Int32) (p0_treeSize : Int32) (p0_weightCount : Int32) (p0_roundCount : Int32) (p0_setCount : Int32) (p0_row : Nat → Int32) (post : Int32 → Prop) (A : Nat → Prop) : Array Value → State → Outcome → State → Prop := va_Qi (fun r (u : Unit) => post r ) (fun (u : Unit) t => xPost (dC, dI) A (wld_X10_get cI cJ cZ h_p0 ad_p0 p0_places p0_steps p0_pastFirst p0_past p0_goings p0_rowSize p0_ways p0_hasField p0_fieldSize p0_faultNow p0_hasTree p0_treeSize p0_weightCount p0_roundCount p0_setCount p0_row) t) A
def w_X10_get (p0_rowSize : Int32) (p0_row : Nat → Int32) (a1 : Int32) (post : Int32 → Prop) : Prop :=
  w_X10_isIn a1 (0 : Int32) (p0_rowSize - (1 : Int32)) (fun r1 =>
  (r1 = 0 →
    (post (-2000000001 : Int32))) ∧
  (¬ r1 = 0 →
    vp_in a1 16 ∧
    (post (p0_row a1.toNatClampNeg))))
set_option maxHeartbeats 4000000 in
set_option maxRecDepth 100000 in
theorem c_X10_get {l : Launch} {dC : Nat → ClassId} {dI : Nat → Nat → Nat} {sz : Nat} {cI cJ cZ : ClassId} {h_p0 : Nat} {ad_p0 : Nat → Nat} {p0_places : Int32} {p0_steps : Int32} {p0_pastFirst : Int32} {p0_past : Int32} {p0_goings : Int32} {p0_rowSize : Int32} {p0_ways : Int32} {p0_hasField : Int32} {p0_fieldSize : Int32} {p0_faultNow : Int32} {p0_hasTree : Int32} {p0_treeSize : Int32} {p0_weightCount : Int32} {p0_roundCount : Int32} {p0_setCount : Int32} {p0_row : Nat → Int32} {a1 : Int32} {post : Int32 → Prop} (hw : w_X10_get p0_rowSize p0_row a1 post) : Met l yX10_get wsX10_get ({ frames := 1, cells := 0, slots := 0, locals := 22 }) (va_Pc [.ref h_p0, .int a1] (xPre (dC, dI) cI cJ cZ (wld_X10_get cI cJ cZ h_p0 ad_p0 p0_places p0_steps p0_pastFirst p0_past p0_goings p0_rowSize p0_ways p0_hasField p0_fieldSize p0_faultNow p0_hasTree p0_treeSize p0_weightCount p0_roundCount p0_setCount p0_row) sz)) (q_X10_get dC dI cI cJ cZ h_p0 ad_p0 p0_places p0_steps p0_pastFirst p0_past p0_goings p0_rowSize p0_ways p0_hasField p0_fieldSize p0_faultNow p0_hasTree p0_treeSize p0_weightCount p0_roundCount p0_setCount p0_row post (va_A (wld_X10_get cI cJ cZ h_p0 ad_p0 p0_places p0_steps p0_pastFirst p0_past p0_goings p0_rowSize p0_ways p0_hasField p0_fieldSize p0_faultNow p0_hasTree p0_treeSize p0_weightCount p0_roundCount p0_setCount p0_row) sz)) 0 0 (va_A (wld_X10_get cI cJ cZ h_p0 ad_p0 p0_places p0_steps p0_pastFirst p0_past p0_goings p0_rowSize p0_ways p0_hasField p0_fieldSize p0_faultNow p0_hasTree p0_treeSize p0_weightCount p0_roundCount p0_setCount p0_row) sz) := by
  refine x_met (cc := cX10_get) (maxL := 2) (ret := (some .int)) (own := RX10) (Qc := fun A => (q_X10_get dC dI cI cJ cZ h_p0 ad_p0 p0_places p0_steps p0_pastFirst p0_past p0_goings p0_rowSize p0_ways p0_hasField p0_fieldSize p0_faultNow p0_hasTree p0_treeSize p0_weightCount p0_roundCount p0_setCount p0_row post A)) (by decide) rfl rfl (Nat.le_of_ble_eq_true rfl) ?_
  intro p e s m args below meth c A ls E0 hP hD hS hl
  obtain ⟨hx, hb, hr, hml, hown, hts, hlocks, hK, hA, n1, n2⟩ := id E0
  have iX10 : ∀ w ∈ u_ws RX10 TX10 50, w ∈ wsX10_get := fun w h => List.mem_cons_of_mem _ (List.mem_append_right _ h)
  have hS0 := hS
  have hl : lv_has ls 2 [(0, .ref h_p0), (1, .int a1)] := hl
  unfold w_X10_get at hw
  obtain ⟨H, hH⟩ : ∃ H, H = s.heap := ⟨_, rfl⟩
  have hS : va_S A s.heap H [] := by rw [hH]; exact hS
  have hP : va_P (dC, dI) vwCl (wld_X10_get cI cJ cZ h_p0 ad_p0 p0_places p0_steps p0_pastFirst p0_past p0_goings p0_rowSize p0_ways p0_hasField p0_fieldSize p0_faultNow p0_hasTree p0_treeSize p0_weightCount p0_roundCount p0_setCount p0_row) H := by rw [hH]; exact hP
  suffices hG : W p l e ({ frames := 1, cells := 0, slots := 0, locals := 22 }) s m args below meth c H [] 0 0 (MQ below (q_X10_get dC dI cI cJ cZ h_p0 ad_p0 p0_places p0_steps p0_pastFirst p0_past p0_goings p0_rowSize p0_ways p0_hasField p0_fieldSize p0_faultNow p0_hasTree p0_treeSize p0_weightCount p0_roundCount p0_setCount p0_row post A) args s 0 0 A) (F0 m 0 ls []) by rw [hH] at hG; exact hG
  clear hH
  refine lv_iload_n hx hb dX10_get_0 rfl (lv_at hl 1 rfl) ?_
  refine lv_iconst (v := 0) hx hb dX10_get_1 (by decide) ?_
  refine lv_aload_n hx hb dX10_get_2 rfl (lv_at hl 0 rfl) ?_
  refine va_get (D := (dC, dI)) (ci := 10) (v := .int p0_rowSize) (C := RX10) (T := TX10) (N := 50) hx hb hts iX10 hown hK hP 0 rfl rfl 18 (by decide) (hts (.fieldLink RX10 221 "NetHouseModel" "rowSize" "I") (by decide +kernel)) (fun _ h9 => h9) rfl dX10_get_3 ?_
  refine lv_iconst (v := 1) hx hb dX10_get_6 (by decide) ?_
  refine lv_isub hx hb dX10_get_7 ?_
  obtain ⟨hPc, hDc⟩ := x_sub (wc := (wld_X10_isIn cI cJ cZ )) hP hD [] (n := 2) rfl rfl (by decide +kernel)
  refine x_calli (ws' := fun (u : Unit) => (wld_X10_get cI cJ cZ h_p0 ad_p0 p0_places p0_steps p0_pastFirst p0_past p0_goings p0_rowSize p0_ways p0_hasField p0_fieldSize p0_faultNow p0_hasTree p0_treeSize p0_weightCount p0_roundCount p0_setCount p0_row)) hP hD hS hA [] [0, 1] [0, 1] (n := 2) (k := 0) rfl (fun _ => rfl) rfl (by decide +kernel) (fun _ => rfl) (va_runS (As := [.int a1, .int (0 : Int32), .int (p0_rowSize - (1 : Int32))]) (rest := []) ⟨hx, hb, hml, hown, hts⟩ (c_X10_isIn (l := l) (dC := dC) (dI := dI) (cI := cI) (cJ := cJ) (cZ := cZ) (sz := H.size) hw) (va_cwS 3 hts gX10_get_X10_isIn rfl rfl rfl (by decide +kernel) ⟨Nat.le_of_ble_eq_true rfl, Nat.le_of_ble_eq_true rfl⟩) ⟨xPre_blind, xPre_at hK hPc hDc n1 n2⟩ rfl rfl hl.1 rfl (lv_room (Nat.le_of_ble_eq_true rfl)) dX10_get_8 ⟨Nat.zero_le _, Nat.zero_le _⟩) (fun r1 u H locs hw hP hD hS => ?_)
  try dsimp only at hw
  have hP : va_P (dC, dI) vwCl (wld_X10_get cI cJ cZ h_p0 ad_p0 p0_places p0_steps p0_pastFirst p0_past p0_goings p0_rowSize p0_ways p0_hasField p0_fieldSize p0_faultNow p0_hasTree p0_treeSize p0_weightCount p0_roundCount p0_setCount p0_row) H := hP
  have hD : va_D A (wld_X10_get cI cJ cZ h_p0 ad_p0 p0_places p0_steps p0_pastFirst p0_past p0_goings p0_rowSize p0_ways p0_hasField p0_fieldSize p0_faultNow p0_hasTree p0_treeSize p0_weightCount p0_roundCount p0_setCount p0_row) := hD
  refine lv_if_eq (tgt := 23) hx hb dX10_get_11 (by decide) (fun c2 => ?_) (fun c3 => ?_)
  · have hw := hw.1 c2
    refine lv_ldc (v := -2000000001) hx hb hown (hts (.constant RX10 159 (-2000000001)) (by decide +kernel)) dX10_get_23 ?_
    exact x_iret (w1 := fun (u : Unit) => (wld_X10_get cI cJ cZ h_p0 ad_p0 p0_places p0_steps p0_pastFirst p0_past p0_goings p0_rowSize p0_ways p0_hasField p0_fieldSize p0_faultNow p0_hasTree p0_treeSize p0_weightCount p0_roundCount p0_setCount p0_row)) hx hb hr hlocks () hw hP hD hS dX10_get_25
  · have hw := hw.2 c3
    refine lv_aload_n hx hb dX10_get_14 rfl (lv_at hl 0 rfl) ?_
    refine va_get (D := (dC, dI)) (ci := 10) (v := .ref (ad_p0 19)) (C := RX10) (T := TX10) (N := 50) hx hb hts iX10 hown hK hP 0 rfl rfl 19 (by decide) (hts (.fieldLink RX10 50 "NetHouseModel" "row" "[I") (by decide +kernel)) (fun _ h9 => h9) rfl dX10_get_15 ?_
    refine lv_iload_n hx hb dX10_get_18 rfl (lv_at hl 1 rfl) ?_
    refine va_iald hx hb hK hP 1 0 rfl rfl hw.1 dX10_get_19 ?_
    have hw := hw.2
    refine lv_goto (tgt := 25) hx hb dX10_get_20 (by decide) ?_
    exact x_iret (w1 := fun (u : Unit) => (wld_X10_get cI cJ cZ h_p0 ad_p0 p0_places p0_steps p0_pastFirst p0_past p0_goings p0_rowSize p0_ways p0_hasField p0_fieldSize p0_faultNow p0_hasTree p0_treeSize p0_weightCount p0_roundCount p0_setCount p0_row)) hx hb hr hlocks () hw hP hD hS dX10_get_25
abbrev wld_X10_copy (cI cJ cZ : ClassId) (h_p0 : Nat) (ad_p0 : Nat → Nat) (p0_places : Int32) (p0_steps : Int32) (p0_pastFirst : Int32) (p0_past : Int32) (p0_goings : Int32) (p0_rowSize : Int32) (p0_ways : Int32) (p0_hasField : Int32) (p0_fieldSize : Int32) (p0_faultNow : Int32) (p0_hasTree : Int32) (p0_treeSize : Int32) (p0_weightCount : Int32) (p0_roundCount : Int32) (p0_setCount : Int32) (p0_held : Nat → Int32) (p0_row : Nat → Int32) : va_W := [(h_p0, .inr (10, [.int p0_places, .int p0_steps, .ref (ad_p0 2), .ref (ad_p0 3), .ref (ad_p0 4), .ref (ad_p0 5), .ref (ad_p0 6), .ref (ad_p0 7), .ref (ad_p0 8), .ref (ad_p0 9), .ref (ad_p0 10), .ref (ad_p0 11), .ref (ad_p0 12), .ref (ad_p0 13), .ref (ad_p0 14), .int p0_pastFirst, .int p0_past, .int p0_goings, .int p0_rowSize, .ref (ad_p0 19), .ref (ad_p0 20), .int p0_ways, .ref (ad_p0 22), .ref (ad_p0 23), .int p0_hasField, .int p0_fieldSize, .ref (ad_p0 26), .ref (ad_p0 27), .ref (ad_p0 28), .ref (ad_p0 29), .ref (ad_p0 30), .ref (ad_p0 31), .ref (ad_p0 32), .int p0_faultNow, .int p0_hasTree, .int p0_treeSize, .ref (ad_p0 36), .ref (ad_p0 37), .ref (ad_p0 38), .ref (ad_p0 39), .ref (ad_p0 40), .ref (ad_p0 41), .ref (ad_p0 42), .int p0_weightCount, .ref (ad_p0 44), .int p0_roundCount, .ref (ad_p0 46), .int p0_setCount, .ref (ad_p0 48), .ref (ad_p0 49)])), ((ad_p0 20), .inl (cI, 16, .inl p0_held)), ((ad_p0 19), .inl (cI, 16, .inl p0_row))]
abbrev q_X10_copy (dC : Nat → ClassId) (dI : Nat → Nat → Nat) (cI cJ cZ : ClassId) (h_p0 : Nat) (ad_p0 : Nat → Nat) (p0_places : Int32) (p0_steps : Int32) (p0_pastFirst : Int32) (p0_past : Int32) (p0_goings : Int32) (p0_rowSize : Int32) (p0_ways : Int32) (p0_hasField : Int32) (p0_fieldSize : Int32) (p0_faultNow : Int32) (p0_hasTree : Int32) (p0_treeSize : Int32) (p0_weightCount : Int32) (p0_roundCount : Int32) (p0_setCount : Int32) (p0_held : Nat → Int32) (p0_row : Nat → Int32) (post : Int32 → (Nat → Int32) → (Nat → Int32) → Prop) (A : Nat → Prop) : Array Value → State → Outcome → State → Prop := va_Qi (fun r (u : (Nat → Int32) × (Nat → Int32)) => post r (u.1) (u.2)) (fun (u : (Nat → Int32) × (Nat → Int32)) t => xPost (dC, dI) A (wld_X10_copy cI cJ cZ h_p0 ad_p0 p0_places p0_steps p0_pastFirst p0_past p0_goings p0_rowSize p0_ways p0_hasField p0_fieldSize p0_faultNow p0_hasTree p0_treeSize p0_weightCount p0_roundCount p0_setCount (u.1) (u.2)) t) A
def w_X10_copy_L46b (v1 : Int32) (v2 : Int32) (v3 : Int32) (p0_rowSize : Int32) (p0_row : Nat → Int32) (post : Int32 → (Nat → Int32) → (Nat → Int32) → Prop) (K : (Int32) → (Nat → Int32) → Prop) (rec : (Int32) → (Nat → Int32) → Prop) (v4 : Int32) (p0_held : Nat → Int32) : Prop :=
    (v3 ≤ v4 →
      K v4 p0_held) ∧
    (¬ v3 ≤ v4 →
      vp_in (v1 + v4) 16 ∧
      vp_in v4 16 ∧
      ∀ x12 : Int32, x12 = v4 + (1 : Int32) →
      rec x12 (upd p0_held v4.toNatClampNeg (p0_row (v1 + v4).toNatClampNeg)))
def w_X10_copy_L46 (v1 : Int32) (v2 : Int32) (v3 : Int32) (p0_rowSize : Int32) (p0_row : Nat → Int32) (post : Int32 → (Nat → Int32) → (Nat → Int32) → Prop) (K : (Int32) → (Nat → Int32) → Prop) : Nat → (Int32) → (Nat → Int32) → Prop
  | 0, _, _ => False
  | n + 1, v4, p0_held => w_X10_copy_L46b v1 v2 v3 p0_rowSize p0_row post K (w_X10_copy_L46 v1 v2 v3 p0_rowSize p0_row post K n) v4 p0_held
def w_X10_copy_L77b (v2 : Int32) (v3 : Int32) (p0_rowSize : Int32) (p0_held : Nat → Int32) (post : Int32 → (Nat → Int32) → (Nat → Int32) → Prop) (K : (Int32) → (Nat → Int32) → Prop) (rec : (Int32) → (Nat → Int32) → Prop) (v4 : Int32) (p0_row : Nat → Int32) : Prop :=
    (v3 ≤ v4 →
      K v4 p0_row) ∧
    (¬ v3 ≤ v4 →
      vp_in v4 16 ∧
      vp_in (v2 + v4) 16 ∧
      ∀ x18 : Int32, x18 = v4 + (1 : Int32) →
      rec x18 (upd p0_row (v2 + v4).toNatClampNeg (p0_held v4.toNatClampNeg)))
def w_X10_copy_L77 (v2 : Int32) (v3 : Int32) (p0_rowSize : Int32) (p0_held : Nat → Int32) (post : Int32 → (Nat → Int32) → (Nat → Int32) → Prop) (K : (Int32) → (Nat → Int32) → Prop) : Nat → (Int32) → (Nat → Int32) → Prop
  | 0, _, _ => False
  | n + 1, v4, p0_row => w_X10_copy_L77b v2 v3 p0_rowSize p0_held post K (w_X10_copy_L77 v2 v3 p0_rowSize p0_held post K n) v4 p0_row
def w_X10_copy (p0_rowSize : Int32) (p0_held : Nat → Int32) (p0_row : Nat → Int32) (a1 : Int32) (a2 : Int32) (a3 : Int32) (post : Int32 → (Nat → Int32) → (Nat → Int32) → Prop) : Prop :=
  w_X10_isIn a3 (0 : Int32) p0_rowSize (fun r1 =>
  (r1 = 0 →
    (post (-2000000001 : Int32) p0_held p0_row)) ∧
  (¬ r1 = 0 →
    w_X10_isIn a1 (0 : Int32) (p0_rowSize - a3) (fun r4 =>
    (r4 = 0 →
      (post (-2000000001 : Int32) p0_held p0_row)) ∧
    (¬ r4 = 0 →
      w_X10_isIn a2 (0 : Int32) (p0_rowSize - a3) (fun r7 =>
      (¬ r7 = 0 →
        ∃ n : Nat, w_X10_copy_L46 a1 a2 a3 p0_rowSize p0_row post (fun v14 s15 =>
            ∃ n : Nat, w_X10_copy_L77 a2 a3 p0_rowSize s15 post (fun v20 s21 =>
                (post (0 : Int32) s15 s21)) n (0 : Int32) p0_row) n (0 : Int32) p0_held) ∧
      (r7 = 0 →
        (post (-2000000001 : Int32) p0_held p0_row)))))))
set_option maxHeartbeats 4000000 in
set_option maxRecDepth 100000 in
theorem c_X10_copy_L46 {p : Program} {l : Launch} {e : Env} {s : State} {m : MethodId} {args : Array Value} {below : List Frame} {meth : Method} {c : Code} {dC : Nat → ClassId} {dI : Nat → Nat → Nat} {A : Nat → Prop} {cI cJ cZ : ClassId} {h_p0 : Nat} {ad_p0 : Nat → Nat} {p0_places : Int32} {p0_steps : Int32} {p0_pastFirst : Int32} {p0_past : Int32} {p0_goings : Int32} {p0_rowSize : Int32} {p0_ways : Int32} {p0_hasField : Int32} {p0_fieldSize : Int32} {p0_faultNow : Int32} {p0_hasTree : Int32} {p0_treeSize : Int32} {p0_weightCount : Int32} {p0_roundCount : Int32} {p0_setCount : Int32} {p0_row : Nat → Int32} {v1 : Int32} {v2 : Int32} {v3 : Int32} {z_p0_held : Nat → Int32} {post : Int32 → (Nat → Int32) → (Nat → Int32) → Prop} {K : (Int32) → (Nat → Int32) → Prop} (E0 : xEnv p s m args meth c cX10_copy (some .int) 5 RX10 wsX10_copy (dC, dI) cI cJ cZ A) (hk : ∀ (v4 : Int32) (p0_held : Nat → Int32) (H : Heap) (locs : List Loc) (ls : Array Slot), K v4 p0_held → va_P (dC, dI) vwCl (wld_X10_copy cI cJ cZ h_p0 ad_p0 p0_places p0_steps p0_pastFirst p0_past p0_goings p0_rowSize p0_ways p0_hasField p0_fieldSize p0_faultNow p0_hasTree p0_treeSize p0_weightCount p0_roundCount p0_setCount p0_held p0_row) H → va_D A (wld_X10_copy cI cJ cZ h_p0 ad_p0 p0_places p0_steps p0_pastFirst p0_past p0_goings p0_rowSize p0_ways p0_hasField p0_fieldSize p0_faultNow p0_hasTree p0_treeSize p0_weightCount p0_roundCount p0_setCount p0_held p0_row) → va_S A s.heap H locs → lv_has ls 5 [(0, .ref h_p0), (2, .int v2), (3, .int v3)] → W p l e ({ frames := 1, cells := 0, slots := 0, locals := 22 }) s m args below meth c H locs 0 0 (MQ below (q_X10_copy dC dI cI cJ cZ h_p0 ad_p0 p0_places p0_steps p0_pastFirst p0_past p0_goings p0_rowSize p0_ways p0_hasField p0_fieldSize p0_faultNow p0_hasTree p0_treeSize p0_weightCount p0_roundCount p0_setCount z_p0_held p0_row post A) args s 0 0 A) (F0 m 74 ls [])) : ∀ (n : Nat) (v4 : Int32) (p0_held : Nat → Int32), w_X10_copy_L46 v1 v2 v3 p0_rowSize p0_row post K n v4 p0_held → ∀ (H : Heap) (locs : List Loc) (ls : Array Slot), va_P (dC, dI) vwCl (wld_X10_copy cI cJ cZ h_p0 ad_p0 p0_places p0_steps p0_pastFirst p0_past p0_goings p0_rowSize p0_ways p0_hasField p0_fieldSize p0_faultNow p0_hasTree p0_treeSize p0_weightCount p0_roundCount p0_setCount p0_held p0_row) H → va_D A (wld_X10_copy cI cJ cZ h_p0 ad_p0 p0_places p0_steps p0_pastFirst p0_past p0_goings p0_rowSize p0_ways p0_hasField p0_fieldSize p0_faultNow p0_hasTree p0_treeSize p0_weightCount p0_roundCount p0_setCount p0_held p0_row) → va_S A s.heap H locs → lv_has ls 5 [(0, .ref h_p0), (1, .int v1), (2, .int v2), (3, .int v3), (4, .int v4)] → W p l e ({ frames := 1, cells := 0, slots := 0, locals := 22 }) s m args below meth c H locs 0 0 (MQ below (q_X10_copy dC dI cI cJ cZ h_p0 ad_p0 p0_places p0_steps p0_pastFirst p0_past p0_goings p0_rowSize p0_ways p0_hasField p0_fieldSize p0_faultNow p0_hasTree p0_treeSize p0_weightCount p0_roundCount p0_setCount z_p0_held p0_row post A) args s 0 0 A) (F0 m 46 ls []) := by
  obtain ⟨hx, hb, hr, hml, hown, hts, hlocks, hK, hA, n1, n2⟩ := id E0
  have iX10 : ∀ w ∈ u_ws RX10 TX10 50, w ∈ wsX10_copy := fun w h => List.mem_cons_of_mem _ (List.mem_append_right _ h)
  intro n
  induction n with
  | zero => intro v4 p0_held hw; exact hw.elim
  | succ n ih =>
    intro v4 p0_held hw H locs ls hP hD hS hl
    have hw : w_X10_copy_L46b v1 v2 v3 p0_rowSize p0_row post K (w_X10_copy_L46 v1 v2 v3 p0_rowSize p0_row post K n) v4 p0_held := hw
    unfold w_X10_copy_L46b at hw
    refine lv_iload hx hb dX10_copy_46 (lv_at hl 4 rfl) ?_
    refine lv_iload_n hx hb dX10_copy_48 rfl (lv_at hl 3 rfl) ?_
    refine lv_icmp_ge (tgt := 74) hx hb dX10_copy_49 (by decide) (fun c10 => ?_) (fun c11 => ?_)
    · have hw := hw.1 c10
      exact hk _ _ _ _ _ hw hP hD hS (lv_sub hl [0, 2, 3] rfl)
    · have hw := hw.2 c11
      refine lv_aload_n hx hb dX10_copy_52 rfl (lv_at hl 0 rfl) ?_
      refine va_get (D := (dC, dI)) (ci := 10) (v := .ref (ad_p0 20)) (C := RX10) (T := TX10) (N := 50) hx hb hts iX10 hown hK hP 0 rfl rfl 20 (by decide) (hts (.fieldLink RX10 53 "NetHouseModel" "held" "[I") (by decide +kernel)) (fun _ h9 => h9) rfl dX10_copy_53 ?_
      refine lv_iload hx hb dX10_copy_56 (lv_at hl 4 rfl) ?_
      refine lv_aload_n hx hb dX10_copy_58 rfl (lv_at hl 0 rfl) ?_
      refine va_get (D := (dC, dI)) (ci := 10) (v := .ref (ad_p0 19)) (C := RX10) (T := TX10) (N := 50) hx hb hts iX10 hown hK hP 0 rfl rfl 19 (by decide) (hts (.fieldLink RX10 50 "NetHouseModel" "row" "[I") (by decide +kernel)) (fun _ h9 => h9) rfl dX10_copy_59 ?_
      refine lv_iload_n hx hb dX10_copy_62 rfl (lv_at hl 1 rfl) ?_
      refine lv_iload hx hb dX10_copy_63 (lv_at hl 4 rfl) ?_
      refine lv_iadd hx hb dX10_copy_65 ?_
      refine va_iald hx hb hK hP 2 0 rfl rfl hw.1 dX10_copy_66 ?_
      have hw := hw.2
      refine va_iast hx hb hK hP hD hS 1 0 rfl rfl hw.1 dX10_copy_67 (fun H locs hP hD hS => ?_)
      have hw := hw.2
      have hP : va_P (dC, dI) vwCl (wld_X10_copy cI cJ cZ h_p0 ad_p0 p0_places p0_steps p0_pastFirst p0_past p0_goings p0_rowSize p0_ways p0_hasField p0_fieldSize p0_faultNow p0_hasTree p0_treeSize p0_weightCount p0_roundCount p0_setCount (upd p0_held v4.toNatClampNeg (p0_row (v1 + v4).toNatClampNeg)) p0_row) H := hP
      have hD : va_D A (wld_X10_copy cI cJ cZ h_p0 ad_p0 p0_places p0_steps p0_pastFirst p0_past p0_goings p0_rowSize p0_ways p0_hasField p0_fieldSize p0_faultNow p0_hasTree p0_treeSize p0_weightCount p0_roundCount p0_setCount (upd p0_held v4.toNatClampNeg (p0_row (v1 + v4).toNatClampNeg)) p0_row) := hD
      obtain ⟨x12, ex12⟩ : ∃ y : Int32, y = v4 + (1 : Int32) := ⟨_, rfl⟩
      have hw := hw x12 ex12
      refine lv_iinc (v := x12) (lv' := [(4, .int x12), (0, .ref h_p0), (1, .int v1), (2, .int v2), (3, .int v3)]) hx hb dX10_copy_68 hl (k := 4) rfl (by rw [ex12]; rfl) (by decide) rfl (fun ls hl => ?_)
      refine lv_goto (tgt := 46) hx hb dX10_copy_71 (by decide) ?_
      exact ih _ _ hw _ _ _ hP hD hS (lv_sub hl [1, 2, 3, 4, 0] rfl)
set_option maxHeartbeats 4000000 in
set_option maxRecDepth 100000 in
theorem c_X10_copy_L77 {p : Program} {l : Launch} {e : Env} {s : State} {m : MethodId} {args : Array Value} {below : List Frame} {meth : Method} {c : Code} {dC : Nat → ClassId} {dI : Nat → Nat → Nat} {A : Nat → Prop} {cI cJ cZ : ClassId} {h_p0 : Nat} {ad_p0 : Nat → Nat} {p0_places : Int32} {p0_steps : Int32} {p0_pastFirst : Int32} {p0_past : Int32} {p0_goings : Int32} {p0_rowSize : Int32} {p0_ways : Int32} {p0_hasField : Int32} {p0_fieldSize : Int32} {p0_faultNow : Int32} {p0_hasTree : Int32} {p0_treeSize : Int32} {p0_weightCount : Int32} {p0_roundCount : Int32} {p0_setCount : Int32} {p0_held : Nat → Int32} {v2 : Int32} {v3 : Int32} {z_p0_row : Nat → Int32} {post : Int32 → (Nat → Int32) → (Nat → Int32) → Prop} {K : (Int32) → (Nat → Int32) → Prop} (E0 : xEnv p s m args meth c cX10_copy (some .int) 5 RX10 wsX10_copy (dC, dI) cI cJ cZ A) (hk : ∀ (v4 : Int32) (p0_row : Nat → Int32) (H : Heap) (locs : List Loc) (ls : Array Slot), K v4 p0_row → va_P (dC, dI) vwCl (wld_X10_copy cI cJ cZ h_p0 ad_p0 p0_places p0_steps p0_pastFirst p0_past p0_goings p0_rowSize p0_ways p0_hasField p0_fieldSize p0_faultNow p0_hasTree p0_treeSize p0_weightCount p0_roundCount p0_setCount p0_held p0_row) H → va_D A (wld_X10_copy cI cJ cZ h_p0 ad_p0 p0_places p0_steps p0_pastFirst p0_past p0_goings p0_rowSize p0_ways p0_hasField p0_fieldSize p0_faultNow p0_hasTree p0_treeSize p0_weightCount p0_roundCount p0_setCount p0_held p0_row) → va_S A s.heap H locs → lv_has ls 5 [] → W p l e ({ frames := 1, cells := 0, slots := 0, locals := 22 }) s m args below meth c H locs 0 0 (MQ below (q_X10_copy dC dI cI cJ cZ h_p0 ad_p0 p0_places p0_steps p0_pastFirst p0_past p0_goings p0_rowSize p0_ways p0_hasField p0_fieldSize p0_faultNow p0_hasTree p0_treeSize p0_weightCount p0_roundCount p0_setCount p0_held z_p0_row post A) args s 0 0 A) (F0 m 105 ls [])) : ∀ (n : Nat) (v4 : Int32) (p0_row : Nat → Int32), w_X10_copy_L77 v2 v3 p0_rowSize p0_held post K n v4 p0_row → ∀ (H : Heap) (locs : List Loc) (ls : Array Slot), va_P (dC, dI) vwCl (wld_X10_copy cI cJ cZ h_p0 ad_p0 p0_places p0_steps p0_pastFirst p0_past p0_goings p0_rowSize p0_ways p0_hasField p0_fieldSize p0_faultNow p0_hasTree p0_treeSize p0_weightCount p0_roundCount p0_setCount p0_held p0_row) H → va_D A (wld_X10_copy cI cJ cZ h_p0 ad_p0 p0_places p0_steps p0_pastFirst p0_past p0_goings p0_rowSize p0_ways p0_hasField p0_fieldSize p0_faultNow p0_hasTree p0_treeSize p0_weightCount p0_roundCount p0_setCount p0_held p0_row) → va_S A s.heap H locs → lv_has ls 5 [(0, .ref h_p0), (2, .int v2), (3, .int v3), (4, .int v4)] → W p l e ({ frames := 1, cells := 0, slots := 0, locals := 22 }) s m args below meth c H locs 0 0 (MQ below (q_X10_copy dC dI cI cJ cZ h_p0 ad_p0 p0_places p0_steps p0_pastFirst p0_past p0_goings p0_rowSize p0_ways p0_hasField p0_fieldSize p0_faultNow p0_hasTree p0_treeSize p0_weightCount p0_roundCount p0_setCount p0_held z_p0_row post A) args s 0 0 A) (F0 m 77 ls []) := by
  obtain ⟨hx, hb, hr, hml, hown, hts, hlocks, hK, hA, n1, n2⟩ := id E0
  have iX10 : ∀ w ∈ u_ws RX10 TX10 50, w ∈ wsX10_copy := fun w h => List.mem_cons_of_mem _ (List.mem_append_right _ h)
  intro n
  induction n with
  | zero => intro v4 p0_row hw; exact hw.elim
  | succ n ih =>
    intro v4 p0_row hw H locs ls hP hD hS hl
    have hw : w_X10_copy_L77b v2 v3 p0_rowSize p0_held post K (w_X10_copy_L77 v2 v3 p0_rowSize p0_held post K n) v4 p0_row := hw
    unfold w_X10_copy_L77b at hw
    refine lv_iload hx hb dX10_copy_77 (lv_at hl 3 rfl) ?_
    refine lv_iload_n hx hb dX10_copy_79 rfl (lv_at hl 2 rfl) ?_
    refine lv_icmp_ge (tgt := 105) hx hb dX10_copy_80 (by decide) (fun c16 => ?_) (fun c17 => ?_)
    · have hw := hw.1 c16
      exact hk _ _ _ _ _ hw hP hD hS (lv_sub hl [] rfl)
    · have hw := hw.2 c17
      refine lv_aload_n hx hb dX10_copy_83 rfl (lv_at hl 0 rfl) ?_
      refine va_get (D := (dC, dI)) (ci := 10) (v := .ref (ad_p0 19)) (C := RX10) (T := TX10) (N := 50) hx hb hts iX10 hown hK hP 0 rfl rfl 19 (by decide) (hts (.fieldLink RX10 50 "NetHouseModel" "row" "[I") (by decide +kernel)) (fun _ h9 => h9) rfl dX10_copy_84 ?_
      refine lv_iload_n hx hb dX10_copy_87 rfl (lv_at hl 1 rfl) ?_
      refine lv_iload hx hb dX10_copy_88 (lv_at hl 3 rfl) ?_
      refine lv_iadd hx hb dX10_copy_90 ?_
      refine lv_aload_n hx hb dX10_copy_91 rfl (lv_at hl 0 rfl) ?_
      refine va_get (D := (dC, dI)) (ci := 10) (v := .ref (ad_p0 20)) (C := RX10) (T := TX10) (N := 50) hx hb hts iX10 hown hK hP 0 rfl rfl 20 (by decide) (hts (.fieldLink RX10 53 "NetHouseModel" "held" "[I") (by decide +kernel)) (fun _ h9 => h9) rfl dX10_copy_92 ?_
      refine lv_iload hx hb dX10_copy_95 (lv_at hl 3 rfl) ?_
      refine va_iald hx hb hK hP 1 0 rfl rfl hw.1 dX10_copy_97 ?_
      have hw := hw.2
      refine va_iast hx hb hK hP hD hS 2 0 rfl rfl hw.1 dX10_copy_98 (fun H locs hP hD hS => ?_)
      have hw := hw.2
      have hP : va_P (dC, dI) vwCl (wld_X10_copy cI cJ cZ h_p0 ad_p0 p0_places p0_steps p0_pastFirst p0_past p0_goings p0_rowSize p0_ways p0_hasField p0_fieldSize p0_faultNow p0_hasTree p0_treeSize p0_weightCount p0_roundCount p0_setCount p0_held (upd p0_row (v2 + v4).toNatClampNeg (p0_held v4.toNatClampNeg))) H := hP
      have hD : va_D A (wld_X10_copy cI cJ cZ h_p0 ad_p0 p0_places p0_steps p0_pastFirst p0_past p0_goings p0_rowSize p0_ways p0_hasField p0_fieldSize p0_faultNow p0_hasTree p0_treeSize p0_weightCount p0_roundCount p0_setCount p0_held (upd p0_row (v2 + v4).toNatClampNeg (p0_held v4.toNatClampNeg))) := hD
      obtain ⟨x18, ex18⟩ : ∃ y : Int32, y = v4 + (1 : Int32) := ⟨_, rfl⟩
      have hw := hw x18 ex18
      refine lv_iinc (v := x18) (lv' := [(4, .int x18), (0, .ref h_p0), (2, .int v2), (3, .int v3)]) hx hb dX10_copy_99 hl (k := 3) rfl (by rw [ex18]; rfl) (by decide) rfl (fun ls hl => ?_)
      refine lv_goto (tgt := 77) hx hb dX10_copy_102 (by decide) ?_
      exact ih _ _ hw _ _ _ hP hD hS (lv_sub hl [1, 2, 3, 0] rfl)
set_option maxHeartbeats 4000000 in
set_option maxRecDepth 100000 in
theorem c_X10_copy {l : Launch} {dC : Nat → ClassId} {dI : Nat → Nat → Nat} {sz : Nat} {cI cJ cZ : ClassId} {h_p0 : Nat} {ad_p0 : Nat → Nat} {p0_places : Int32} {p0_steps : Int32} {p0_pastFirst : Int32} {p0_past : Int32} {p0_goings : Int32} {p0_rowSize : Int32} {p0_ways : Int32} {p0_hasField : Int32} {p0_fieldSize : Int32} {p0_faultNow : Int32} {p0_hasTree : Int32} {p0_treeSize : Int32} {p0_weightCount : Int32} {p0_roundCount : Int32} {p0_setCount : Int32} {p0_held : Nat → Int32} {p0_row : Nat → Int32} {a1 : Int32} {a2 : Int32} {a3 : Int32} {post : Int32 → (Nat → Int32) → (Nat → Int32) → Prop} (hw : w_X10_copy p0_rowSize p0_held p0_row a1 a2 a3 post) : Met l yX10_copy wsX10_copy ({ frames := 1, cells := 0, slots := 0, locals := 22 }) (va_Pc [.ref h_p0, .int a1, .int a2, .int a3] (xPre (dC, dI) cI cJ cZ (wld_X10_copy cI cJ cZ h_p0 ad_p0 p0_places p0_steps p0_pastFirst p0_past p0_goings p0_rowSize p0_ways p0_hasField p0_fieldSize p0_faultNow p0_hasTree p0_treeSize p0_weightCount p0_roundCount p0_setCount p0_held p0_row) sz)) (q_X10_copy dC dI cI cJ cZ h_p0 ad_p0 p0_places p0_steps p0_pastFirst p0_past p0_goings p0_rowSize p0_ways p0_hasField p0_fieldSize p0_faultNow p0_hasTree p0_treeSize p0_weightCount p0_roundCount p0_setCount p0_held p0_row post (va_A (wld_X10_copy cI cJ cZ h_p0 ad_p0 p0_places p0_steps p0_pastFirst p0_past p0_goings p0_rowSize p0_ways p0_hasField p0_fieldSize p0_faultNow p0_hasTree p0_treeSize p0_weightCount p0_roundCount p0_setCount p0_held p0_row) sz)) 0 0 (va_A (wld_X10_copy cI cJ cZ h_p0 ad_p0 p0_places p0_steps p0_pastFirst p0_past p0_goings p0_rowSize p0_ways p0_hasField p0_fieldSize p0_faultNow p0_hasTree p0_treeSize p0_weightCount p0_roundCount p0_setCount p0_held p0_row) sz) := by
  refine x_met (cc := cX10_copy) (maxL := 5) (ret := (some .int)) (own := RX10) (Qc := fun A => (q_X10_copy dC dI cI cJ cZ h_p0 ad_p0 p0_places p0_steps p0_pastFirst p0_past p0_goings p0_rowSize p0_ways p0_hasField p0_fieldSize p0_faultNow p0_hasTree p0_treeSize p0_weightCount p0_roundCount p0_setCount p0_held p0_row post A)) (by decide) rfl rfl (Nat.le_of_ble_eq_true rfl) ?_
  intro p e s m args below meth c A ls E0 hP hD hS hl
  obtain ⟨hx, hb, hr, hml, hown, hts, hlocks, hK, hA, n1, n2⟩ := id E0
  have iX10 : ∀ w ∈ u_ws RX10 TX10 50, w ∈ wsX10_copy := fun w h => List.mem_cons_of_mem _ (List.mem_append_right _ h)
  have hS0 := hS
  have hl : lv_has ls 5 [(0, .ref h_p0), (1, .int a1), (2, .int a2), (3, .int a3)] := hl
  unfold w_X10_copy at hw
  obtain ⟨H, hH⟩ : ∃ H, H = s.heap := ⟨_, rfl⟩
  have hS : va_S A s.heap H [] := by rw [hH]; exact hS
  have hP : va_P (dC, dI) vwCl (wld_X10_copy cI cJ cZ h_p0 ad_p0 p0_places p0_steps p0_pastFirst p0_past p0_goings p0_rowSize p0_ways p0_hasField p0_fieldSize p0_faultNow p0_hasTree p0_treeSize p0_weightCount p0_roundCount p0_setCount p0_held p0_row) H := by rw [hH]; exact hP
  suffices hG : W p l e ({ frames := 1, cells := 0, slots := 0, locals := 22 }) s m args below meth c H [] 0 0 (MQ below (q_X10_copy dC dI cI cJ cZ h_p0 ad_p0 p0_places p0_steps p0_pastFirst p0_past p0_goings p0_rowSize p0_ways p0_hasField p0_fieldSize p0_faultNow p0_hasTree p0_treeSize p0_weightCount p0_roundCount p0_setCount p0_held p0_row post A) args s 0 0 A) (F0 m 0 ls []) by rw [hH] at hG; exact hG
  clear hH
  refine lv_iload_n hx hb dX10_copy_0 rfl (lv_at hl 3 rfl) ?_
  refine lv_iconst (v := 0) hx hb dX10_copy_1 (by decide) ?_
  refine lv_aload_n hx hb dX10_copy_2 rfl (lv_at hl 0 rfl) ?_
  refine va_get (D := (dC, dI)) (ci := 10) (v := .int p0_rowSize) (C := RX10) (T := TX10) (N := 50) hx hb hts iX10 hown hK hP 0 rfl rfl 18 (by decide) (hts (.fieldLink RX10 221 "NetHouseModel" "rowSize" "I") (by decide +kernel)) (fun _ h9 => h9) rfl dX10_copy_3 ?_
  obtain ⟨hPc, hDc⟩ := x_sub (wc := (wld_X10_isIn cI cJ cZ )) hP hD [] (n := 3) rfl rfl (by decide +kernel)
  refine x_calli (ws' := fun (u : Unit) => (wld_X10_copy cI cJ cZ h_p0 ad_p0 p0_places p0_steps p0_pastFirst p0_past p0_goings p0_rowSize p0_ways p0_hasField p0_fieldSize p0_faultNow p0_hasTree p0_treeSize p0_weightCount p0_roundCount p0_setCount p0_held p0_row)) hP hD hS hA [] [0, 1, 2] [0, 1, 2] (n := 3) (k := 0) rfl (fun _ => rfl) rfl (by decide +kernel) (fun _ => rfl) (va_runS (As := [.int a3, .int (0 : Int32), .int p0_rowSize]) (rest := []) ⟨hx, hb, hml, hown, hts⟩ (c_X10_isIn (l := l) (dC := dC) (dI := dI) (cI := cI) (cJ := cJ) (cZ := cZ) (sz := H.size) hw) (va_cwS 3 hts gX10_copy_X10_isIn rfl rfl rfl (by decide +kernel) ⟨Nat.le_of_ble_eq_true rfl, Nat.le_of_ble_eq_true rfl⟩) ⟨xPre_blind, xPre_at hK hPc hDc n1 n2⟩ rfl rfl hl.1 rfl (lv_room (Nat.le_of_ble_eq_true rfl)) dX10_copy_6 ⟨Nat.zero_le _, Nat.zero_le _⟩) (fun r1 u H locs hw hP hD hS => ?_)
  try dsimp only at hw
  have hP : va_P (dC, dI) vwCl (wld_X10_copy cI cJ cZ h_p0 ad_p0 p0_places p0_steps p0_pastFirst p0_past p0_goings p0_rowSize p0_ways p0_hasField p0_fieldSize p0_faultNow p0_hasTree p0_treeSize p0_weightCount p0_roundCount p0_setCount p0_held p0_row) H := hP
  have hD : va_D A (wld_X10_copy cI cJ cZ h_p0 ad_p0 p0_places p0_steps p0_pastFirst p0_past p0_goings p0_rowSize p0_ways p0_hasField p0_fieldSize p0_faultNow p0_hasTree p0_treeSize p0_weightCount p0_roundCount p0_setCount p0_held p0_row) := hD
  refine lv_if_eq (tgt := 40) hx hb dX10_copy_9 (by decide) (fun c2 => ?_) (fun c3 => ?_)
  · have hw := hw.1 c2
    refine lv_ldc (v := -2000000001) hx hb hown (hts (.constant RX10 159 (-2000000001)) (by decide +kernel)) dX10_copy_40 ?_
    exact x_iret (w1 := fun (u : (Nat → Int32) × (Nat → Int32)) => (wld_X10_copy cI cJ cZ h_p0 ad_p0 p0_places p0_steps p0_pastFirst p0_past p0_goings p0_rowSize p0_ways p0_hasField p0_fieldSize p0_faultNow p0_hasTree p0_treeSize p0_weightCount p0_roundCount p0_setCount (u.1) (u.2))) hx hb hr hlocks (p0_held, p0_row) hw hP hD hS dX10_copy_42
  · have hw := hw.2 c3
    refine lv_iload_n hx hb dX10_copy_12 rfl (lv_at hl 1 rfl) ?_
    refine lv_iconst (v := 0) hx hb dX10_copy_13 (by decide) ?_
    refine lv_aload_n hx hb dX10_copy_14 rfl (lv_at hl 0 rfl) ?_
    refine va_get (D := (dC, dI)) (ci := 10) (v := .int p0_rowSize) (C := RX10) (T := TX10) (N := 50) hx hb hts iX10 hown hK hP 0 rfl rfl 18 (by decide) (hts (.fieldLink RX10 221 "NetHouseModel" "rowSize" "I") (by decide +kernel)) (fun _ h9 => h9) rfl dX10_copy_15 ?_
    refine lv_iload_n hx hb dX10_copy_18 rfl (lv_at hl 3 rfl) ?_
    refine lv_isub hx hb dX10_copy_19 ?_
    obtain ⟨hPc, hDc⟩ := x_sub (wc := (wld_X10_isIn cI cJ cZ )) hP hD [] (n := 3) rfl rfl (by decide +kernel)
    refine x_calli (ws' := fun (u : Unit) => (wld_X10_copy cI cJ cZ h_p0 ad_p0 p0_places p0_steps p0_pastFirst p0_past p0_goings p0_rowSize p0_ways p0_hasField p0_fieldSize p0_faultNow p0_hasTree p0_treeSize p0_weightCount p0_roundCount p0_setCount p0_held p0_row)) hP hD hS hA [] [0, 1, 2] [0, 1, 2] (n := 3) (k := 0) rfl (fun _ => rfl) rfl (by decide +kernel) (fun _ => rfl) (va_runS (As := [.int a1, .int (0 : Int32), .int (p0_rowSize - a3)]) (rest := []) ⟨hx, hb, hml, hown, hts⟩ (c_X10_isIn (l := l) (dC := dC) (dI := dI) (cI := cI) (cJ := cJ) (cZ := cZ) (sz := H.size) hw) (va_cwS 3 hts gX10_copy_X10_isIn rfl rfl rfl (by decide +kernel) ⟨Nat.le_of_ble_eq_true rfl, Nat.le_of_ble_eq_true rfl⟩) ⟨xPre_blind, xPre_at hK hPc hDc n1 n2⟩ rfl rfl hl.1 rfl (lv_room (Nat.le_of_ble_eq_true rfl)) dX10_copy_20 ⟨Nat.zero_le _, Nat.zero_le _⟩) (fun r4 u H locs hw hP hD hS => ?_)
    try dsimp only at hw
    have hP : va_P (dC, dI) vwCl (wld_X10_copy cI cJ cZ h_p0 ad_p0 p0_places p0_steps p0_pastFirst p0_past p0_goings p0_rowSize p0_ways p0_hasField p0_fieldSize p0_faultNow p0_hasTree p0_treeSize p0_weightCount p0_roundCount p0_setCount p0_held p0_row) H := hP
    have hD : va_D A (wld_X10_copy cI cJ cZ h_p0 ad_p0 p0_places p0_steps p0_pastFirst p0_past p0_goings p0_rowSize p0_ways p0_hasField p0_fieldSize p0_faultNow p0_hasTree p0_treeSize p0_weightCount p0_roundCount p0_setCount p0_held p0_row) := hD
    refine lv_if_eq (tgt := 40) hx hb dX10_copy_23 (by decide) (fun c5 => ?_) (fun c6 => ?_)
    · have hw := hw.1 c5
      refine lv_ldc (v := -2000000001) hx hb hown (hts (.constant RX10 159 (-2000000001)) (by decide +kernel)) dX10_copy_40 ?_
      exact x_iret (w1 := fun (u : (Nat → Int32) × (Nat → Int32)) => (wld_X10_copy cI cJ cZ h_p0 ad_p0 p0_places p0_steps p0_pastFirst p0_past p0_goings p0_rowSize p0_ways p0_hasField p0_fieldSize p0_faultNow p0_hasTree p0_treeSize p0_weightCount p0_roundCount p0_setCount (u.1) (u.2))) hx hb hr hlocks (p0_held, p0_row) hw hP hD hS dX10_copy_42
    · have hw := hw.2 c6
      refine lv_iload_n hx hb dX10_copy_26 rfl (lv_at hl 2 rfl) ?_
      refine lv_iconst (v := 0) hx hb dX10_copy_27 (by decide) ?_
      refine lv_aload_n hx hb dX10_copy_28 rfl (lv_at hl 0 rfl) ?_
      refine va_get (D := (dC, dI)) (ci := 10) (v := .int p0_rowSize) (C := RX10) (T := TX10) (N := 50) hx hb hts iX10 hown hK hP 0 rfl rfl 18 (by decide) (hts (.fieldLink RX10 221 "NetHouseModel" "rowSize" "I") (by decide +kernel)) (fun _ h9 => h9) rfl dX10_copy_29 ?_
      refine lv_iload_n hx hb dX10_copy_32 rfl (lv_at hl 3 rfl) ?_
      refine lv_isub hx hb dX10_copy_33 ?_
      obtain ⟨hPc, hDc⟩ := x_sub (wc := (wld_X10_isIn cI cJ cZ )) hP hD [] (n := 3) rfl rfl (by decide +kernel)
      refine x_calli (ws' := fun (u : Unit) => (wld_X10_copy cI cJ cZ h_p0 ad_p0 p0_places p0_steps p0_pastFirst p0_past p0_goings p0_rowSize p0_ways p0_hasField p0_fieldSize p0_faultNow p0_hasTree p0_treeSize p0_weightCount p0_roundCount p0_setCount p0_held p0_row)) hP hD hS hA [] [0, 1, 2] [0, 1, 2] (n := 3) (k := 0) rfl (fun _ => rfl) rfl (by decide +kernel) (fun _ => rfl) (va_runS (As := [.int a2, .int (0 : Int32), .int (p0_rowSize - a3)]) (rest := []) ⟨hx, hb, hml, hown, hts⟩ (c_X10_isIn (l := l) (dC := dC) (dI := dI) (cI := cI) (cJ := cJ) (cZ := cZ) (sz := H.size) hw) (va_cwS 3 hts gX10_copy_X10_isIn rfl rfl rfl (by decide +kernel) ⟨Nat.le_of_ble_eq_true rfl, Nat.le_of_ble_eq_true rfl⟩) ⟨xPre_blind, xPre_at hK hPc hDc n1 n2⟩ rfl rfl hl.1 rfl (lv_room (Nat.le_of_ble_eq_true rfl)) dX10_copy_34 ⟨Nat.zero_le _, Nat.zero_le _⟩) (fun r7 u H locs hw hP hD hS => ?_)
      try dsimp only at hw
      have hP : va_P (dC, dI) vwCl (wld_X10_copy cI cJ cZ h_p0 ad_p0 p0_places p0_steps p0_pastFirst p0_past p0_goings p0_rowSize p0_ways p0_hasField p0_fieldSize p0_faultNow p0_hasTree p0_treeSize p0_weightCount p0_roundCount p0_setCount p0_held p0_row) H := hP
      have hD : va_D A (wld_X10_copy cI cJ cZ h_p0 ad_p0 p0_places p0_steps p0_pastFirst p0_past p0_goings p0_rowSize p0_ways p0_hasField p0_fieldSize p0_faultNow p0_hasTree p0_treeSize p0_weightCount p0_roundCount p0_setCount p0_held p0_row) := hD
      refine lv_if_ne (tgt := 43) hx hb dX10_copy_37 (by decide) (fun c8 => ?_) (fun c9 => ?_)
      · have hw := hw.1 c8
        refine lv_iconst (v := 0) hx hb dX10_copy_43 (by decide) ?_
        refine lv_istore (lv' := [(4, .int (0 : Int32)), (0, .ref h_p0), (1, .int a1), (2, .int a2), (3, .int a3)]) hx hb dX10_copy_44 hl (by decide) rfl (fun ls hl => ?_)
        obtain ⟨n13, hw⟩ := hw
        refine c_X10_copy_L46 (l := l) (z_p0_held := p0_held) E0 ?_ n13 _ _ hw _ _ _ hP hD hS (lv_sub hl [1, 2, 3, 4, 0] rfl)
        · intro v14 s15 H locs ls hw hP hD hS hl
          have hP : va_P (dC, dI) vwCl (wld_X10_copy cI cJ cZ h_p0 ad_p0 p0_places p0_steps p0_pastFirst p0_past p0_goings p0_rowSize p0_ways p0_hasField p0_fieldSize p0_faultNow p0_hasTree p0_treeSize p0_weightCount p0_roundCount p0_setCount s15 p0_row) H := hP
          have hD : va_D A (wld_X10_copy cI cJ cZ h_p0 ad_p0 p0_places p0_steps p0_pastFirst p0_past p0_goings p0_rowSize p0_ways p0_hasField p0_fieldSize p0_faultNow p0_hasTree p0_treeSize p0_weightCount p0_roundCount p0_setCount s15 p0_row) := hD
          refine lv_iconst (v := 0) hx hb dX10_copy_74 (by decide) ?_
          refine lv_istore (lv' := [(4, .int (0 : Int32)), (0, .ref h_p0), (2, .int a2), (3, .int a3)]) hx hb dX10_copy_75 hl (by decide) rfl (fun ls hl => ?_)
          obtain ⟨n19, hw⟩ := hw
          refine c_X10_copy_L77 (l := l) (z_p0_row := p0_row) E0 ?_ n19 _ _ hw _ _ _ hP hD hS (lv_sub hl [1, 2, 3, 0] rfl)
          · intro v20 s21 H locs ls hw hP hD hS hl
            have hP : va_P (dC, dI) vwCl (wld_X10_copy cI cJ cZ h_p0 ad_p0 p0_places p0_steps p0_pastFirst p0_past p0_goings p0_rowSize p0_ways p0_hasField p0_fieldSize p0_faultNow p0_hasTree p0_treeSize p0_weightCount p0_roundCount p0_setCount s15 s21) H := hP
            have hD : va_D A (wld_X10_copy cI cJ cZ h_p0 ad_p0 p0_places p0_steps p0_pastFirst p0_past p0_goings p0_rowSize p0_ways p0_hasField p0_fieldSize p0_faultNow p0_hasTree p0_treeSize p0_weightCount p0_roundCount p0_setCount s15 s21) := hD
            refine lv_iconst (v := 0) hx hb dX10_copy_105 (by decide) ?_
            exact x_iret (w1 := fun (u : (Nat → Int32) × (Nat → Int32)) => (wld_X10_copy cI cJ cZ h_p0 ad_p0 p0_places p0_steps p0_pastFirst p0_past p0_goings p0_rowSize p0_ways p0_hasField p0_fieldSize p0_faultNow p0_hasTree p0_treeSize p0_weightCount p0_roundCount p0_setCount (u.1) (u.2))) hx hb hr hlocks (s15, s21) hw hP hD hS dX10_copy_106
      · have hw := hw.2 c9
        refine lv_ldc (v := -2000000001) hx hb hown (hts (.constant RX10 159 (-2000000001)) (by decide +kernel)) dX10_copy_40 ?_
        exact x_iret (w1 := fun (u : (Nat → Int32) × (Nat → Int32)) => (wld_X10_copy cI cJ cZ h_p0 ad_p0 p0_places p0_steps p0_pastFirst p0_past p0_goings p0_rowSize p0_ways p0_hasField p0_fieldSize p0_faultNow p0_hasTree p0_treeSize p0_weightCount p0_roundCount p0_setCount (u.1) (u.2))) hx hb hr hlocks (p0_held, p0_row) hw hP hD hS dX10_copy_42
abbrev wld_X10_told (cI cJ cZ : ClassId) (h_p0 : Nat) (ad_p0 : Nat → Nat) (p0_places : Int32) (p0_steps : Int32) (p0_pastFirst : Int32) (p0_past : Int32) (p0_goings : Int32) (p0_rowSize : Int32) (p0_ways : Int32) (p0_hasField : Int32) (p0_fieldSize : Int32) (p0_faultNow : Int32) (p0_hasTree : Int32) (p0_treeSize : Int32) (p0_weightCount : Int32) (p0_roundCount : Int32) (p0_setCount : Int32) (p0_row : Nat → Int32) : va_W := [(h_p0, .inr (10, [.int p0_places, .int p0_steps, .ref (ad_p0 2), .ref (ad_p0 3), .ref (ad_p0 4), .ref (ad_p0 5), .ref (ad_p0 6), .ref (ad_p0 7), .ref (ad_p0 8), .ref (ad_p0 9), .ref (ad_p0 10), .ref (ad_p0 11), .ref (ad_p0 12), .ref (ad_p0 13), .ref (ad_p0 14), .int p0_pastFirst, .int p0_past, .int p0_goings, .int p0_rowSize, .ref (ad_p0 19), .ref (ad_p0 20), .int p0_ways, .ref (ad_p0 22), .ref (ad_p0 23), .int p0_hasField, .int p0_fieldSize, .ref (ad_p0 26), .ref (ad_p0 27), .ref (ad_p0 28), .ref (ad_p0 29), .ref (ad_p0 30), .ref (ad_p0 31), .ref (ad_p0 32), .int p0_faultNow, .int p0_hasTree, .int p0_treeSize, .ref (ad_p0 36), .ref (ad_p0 37), .ref (ad_p0 38), .ref (ad_p0 39), .ref (ad_p0 40), .ref (ad_p0 41), .ref (ad_p0 42), .int p0_weightCount, .ref (ad_p0 44), .int p0_roundCount, .ref (ad_p0 46), .int p0_setCount, .ref (ad_p0 48), .ref (ad_p0 49)])), ((ad_p0 19), .inl (cI, 16, .inl p0_row))]
abbrev q_X10_told (dC : Nat → ClassId) (dI : Nat → Nat → Nat) (cI cJ cZ : ClassId) (h_p0 : Nat) (ad_p0 : Nat → Nat) (p0_places : Int32) (p0_steps : Int32) (p0_pastFirst : Int32) (p0_past : Int32) (p0_goings : Int32) (p0_rowSize : Int32) (p0_ways : Int32) (p0_hasField : Int32) (p0_fieldSize : Int32) (p0_faultNow : Int32) (p0_hasTree : Int32) (p0_treeSize : Int32) (p0_weightCount : Int32) (p0_roundCount : Int32) (p0_setCount : Int32) (p0_row : Nat → Int32) (post : Int32 → Prop) (A : Nat → Prop) : Array Value → State → Outcome → State → Prop := va_Qi (fun r (u : Unit) => post r ) (fun (u : Unit) t => xPost (dC, dI) A (wld_X10_told cI cJ cZ h_p0 ad_p0 p0_places p0_steps p0_pastFirst p0_past p0_goings p0_rowSize p0_ways p0_hasField p0_fieldSize p0_faultNow p0_hasTree p0_treeSize p0_weightCount p0_roundCount p0_setCount p0_row) t) A
def w_X10_told (p0_rowSize : Int32) (p0_row : Nat → Int32) (a1 : Int32) (post : Int32 → Prop) : Prop :=
  (p0_rowSize ≤ a1 →
    (post (0 : Int32))) ∧
  (¬ p0_rowSize ≤ a1 →
    vp_in a1 16 ∧
    (post (p0_row a1.toNatClampNeg)))
set_option maxHeartbeats 4000000 in
set_option maxRecDepth 100000 in
theorem c_X10_told {l : Launch} {dC : Nat → ClassId} {dI : Nat → Nat → Nat} {sz : Nat} {cI cJ cZ : ClassId} {h_p0 : Nat} {ad_p0 : Nat → Nat} {p0_places : Int32} {p0_steps : Int32} {p0_pastFirst : Int32} {p0_past : Int32} {p0_goings : Int32} {p0_rowSize : Int32} {p0_ways : Int32} {p0_hasField : Int32} {p0_fieldSize : Int32} {p0_faultNow : Int32} {p0_hasTree : Int32} {p0_treeSize : Int32} {p0_weightCount : Int32} {p0_roundCount : Int32} {p0_setCount : Int32} {p0_row : Nat → Int32} {a1 : Int32} {post : Int32 → Prop} (hw : w_X10_told p0_rowSize p0_row a1 post) : Met l yX10_told wsX10_told ({ frames := 0, cells := 0, slots := 0, locals := 0 }) (va_Pc [.ref h_p0, .int a1] (xPre (dC, dI) cI cJ cZ (wld_X10_told cI cJ cZ h_p0 ad_p0 p0_places p0_steps p0_pastFirst p0_past p0_goings p0_rowSize p0_ways p0_hasField p0_fieldSize p0_faultNow p0_hasTree p0_treeSize p0_weightCount p0_roundCount p0_setCount p0_row) sz)) (q_X10_told dC dI cI cJ cZ h_p0 ad_p0 p0_places p0_steps p0_pastFirst p0_past p0_goings p0_rowSize p0_ways p0_hasField p0_fieldSize p0_faultNow p0_hasTree p0_treeSize p0_weightCount p0_roundCount p0_setCount p0_row post (va_A (wld_X10_told cI cJ cZ h_p0 ad_p0 p0_places p0_steps p0_pastFirst p0_past p0_goings p0_rowSize p0_ways p0_hasField p0_fieldSize p0_faultNow p0_hasTree p0_treeSize p0_weightCount p0_roundCount p0_setCount p0_row) sz)) 0 0 (va_A (wld_X10_told cI cJ cZ h_p0 ad_p0 p0_places p0_steps p0_pastFirst p0_past p0_goings p0_rowSize p0_ways p0_hasField p0_fieldSize p0_faultNow p0_hasTree p0_treeSize p0_weightCount p0_roundCount p0_setCount p0_row) sz) := by
  refine x_met (cc := cX10_told) (maxL := 2) (ret := (some .int)) (own := RX10) (Qc := fun A => (q_X10_told dC dI cI cJ cZ h_p0 ad_p0 p0_places p0_steps p0_pastFirst p0_past p0_goings p0_rowSize p0_ways p0_hasField p0_fieldSize p0_faultNow p0_hasTree p0_treeSize p0_weightCount p0_roundCount p0_setCount p0_row post A)) (by decide) rfl rfl (Nat.le_of_ble_eq_true rfl) ?_
  intro p e s m args below meth c A ls E0 hP hD hS hl
  obtain ⟨hx, hb, hr, hml, hown, hts, hlocks, hK, hA, n1, n2⟩ := id E0
  have iX10 : ∀ w ∈ u_ws RX10 TX10 50, w ∈ wsX10_told := fun w h => List.mem_cons_of_mem _ (List.mem_append_right _ h)
  have hS0 := hS
  have hl : lv_has ls 2 [(0, .ref h_p0), (1, .int a1)] := hl
  unfold w_X10_told at hw
  obtain ⟨H, hH⟩ : ∃ H, H = s.heap := ⟨_, rfl⟩
  have hS : va_S A s.heap H [] := by rw [hH]; exact hS
  have hP : va_P (dC, dI) vwCl (wld_X10_told cI cJ cZ h_p0 ad_p0 p0_places p0_steps p0_pastFirst p0_past p0_goings p0_rowSize p0_ways p0_hasField p0_fieldSize p0_faultNow p0_hasTree p0_treeSize p0_weightCount p0_roundCount p0_setCount p0_row) H := by rw [hH]; exact hP
  suffices hG : W p l e ({ frames := 0, cells := 0, slots := 0, locals := 0 }) s m args below meth c H [] 0 0 (MQ below (q_X10_told dC dI cI cJ cZ h_p0 ad_p0 p0_places p0_steps p0_pastFirst p0_past p0_goings p0_rowSize p0_ways p0_hasField p0_fieldSize p0_faultNow p0_hasTree p0_treeSize p0_weightCount p0_roundCount p0_setCount p0_row post A) args s 0 0 A) (F0 m 0 ls []) by rw [hH] at hG; exact hG
  clear hH
  refine lv_iload_n hx hb dX10_told_0 rfl (lv_at hl 1 rfl) ?_
  refine lv_aload_n hx hb dX10_told_1 rfl (lv_at hl 0 rfl) ?_
  refine va_get (D := (dC, dI)) (ci := 10) (v := .int p0_rowSize) (C := RX10) (T := TX10) (N := 50) hx hb hts iX10 hown hK hP 0 rfl rfl 18 (by decide) (hts (.fieldLink RX10 221 "NetHouseModel" "rowSize" "I") (by decide +kernel)) (fun _ h9 => h9) rfl dX10_told_2 ?_
  refine lv_icmp_ge (tgt := 17) hx hb dX10_told_5 (by decide) (fun c1 => ?_) (fun c2 => ?_)
  · have hw := hw.1 c1
    refine lv_iconst (v := 0) hx hb dX10_told_17 (by decide) ?_
    exact x_iret (w1 := fun (u : Unit) => (wld_X10_told cI cJ cZ h_p0 ad_p0 p0_places p0_steps p0_pastFirst p0_past p0_goings p0_rowSize p0_ways p0_hasField p0_fieldSize p0_faultNow p0_hasTree p0_treeSize p0_weightCount p0_roundCount p0_setCount p0_row)) hx hb hr hlocks () hw hP hD hS dX10_told_18
  · have hw := hw.2 c2
    refine lv_aload_n hx hb dX10_told_8 rfl (lv_at hl 0 rfl) ?_
    refine va_get (D := (dC, dI)) (ci := 10) (v := .ref (ad_p0 19)) (C := RX10) (T := TX10) (N := 50) hx hb hts iX10 hown hK hP 0 rfl rfl 19 (by decide) (hts (.fieldLink RX10 50 "NetHouseModel" "row" "[I") (by decide +kernel)) (fun _ h9 => h9) rfl dX10_told_9 ?_
    refine lv_iload_n hx hb dX10_told_12 rfl (lv_at hl 1 rfl) ?_
    refine va_iald hx hb hK hP 1 0 rfl rfl hw.1 dX10_told_13 ?_
    have hw := hw.2
    refine lv_goto (tgt := 18) hx hb dX10_told_14 (by decide) ?_
    exact x_iret (w1 := fun (u : Unit) => (wld_X10_told cI cJ cZ h_p0 ad_p0 p0_places p0_steps p0_pastFirst p0_past p0_goings p0_rowSize p0_ways p0_hasField p0_fieldSize p0_faultNow p0_hasTree p0_treeSize p0_weightCount p0_roundCount p0_setCount p0_row)) hx hb hr hlocks () hw hP hD hS dX10_told_18
abbrev wld_X10_lay (cI cJ cZ : ClassId) (h_p0 : Nat) (ad_p0 : Nat → Nat) (p0_places : Int32) (p0_steps : Int32) (p0_pastFirst : Int32) (p0_past : Int32) (p0_goings : Int32) (p0_rowSize : Int32) (p0_ways : Int32) (p0_hasField : Int32) (p0_fieldSize : Int32) (p0_faultNow : Int32) (p0_hasTree : Int32) (p0_treeSize : Int32) (p0_weightCount : Int32) (p0_roundCount : Int32) (p0_setCount : Int32) (p0_way : Nat → Int32) : va_W := [(h_p0, .inr (10, [.int p0_places, .int p0_steps, .ref (ad_p0 2), .ref (ad_p0 3), .ref (ad_p0 4), .ref (ad_p0 5), .ref (ad_p0 6), .ref (ad_p0 7), .ref (ad_p0 8), .ref (ad_p0 9), .ref (ad_p0 10), .ref (ad_p0 11), .ref (ad_p0 12), .ref (ad_p0 13), .ref (ad_p0 14), .int p0_pastFirst, .int p0_past, .int p0_goings, .int p0_rowSize, .ref (ad_p0 19), .ref (ad_p0 20), .int p0_ways, .ref (ad_p0 22), .ref (ad_p0 23), .int p0_hasField, .int p0_fieldSize, .ref (ad_p0 26), .ref (ad_p0 27), .ref (ad_p0 28), .ref (ad_p0 29), .ref (ad_p0 30), .ref (ad_p0 31), .ref (ad_p0 32), .int p0_faultNow, .int p0_hasTree, .int p0_treeSize, .ref (ad_p0 36), .ref (ad_p0 37), .ref (ad_p0 38), .ref (ad_p0 39), .ref (ad_p0 40), .ref (ad_p0 41), .ref (ad_p0 42), .int p0_weightCount, .ref (ad_p0 44), .int p0_roundCount, .ref (ad_p0 46), .int p0_setCount, .ref (ad_p0 48), .ref (ad_p0 49)])), ((ad_p0 22), .inl (cI, 8000, .inl p0_way))]
abbrev q_X10_lay (dC : Nat → ClassId) (dI : Nat → Nat → Nat) (cI cJ cZ : ClassId) (h_p0 : Nat) (ad_p0 : Nat → Nat) (p0_places : Int32) (p0_steps : Int32) (p0_pastFirst : Int32) (p0_past : Int32) (p0_goings : Int32) (p0_rowSize : Int32) (p0_ways : Int32) (p0_hasField : Int32) (p0_fieldSize : Int32) (p0_faultNow : Int32) (p0_hasTree : Int32) (p0_treeSize : Int32) (p0_weightCount : Int32) (p0_roundCount : Int32) (p0_setCount : Int32) (p0_way : Nat → Int32) (post : Int32 → (Int32) → (Nat → Int32) → Prop) (A : Nat → Prop) : Array Value → State → Outcome → State → Prop := va_Qi (fun r (u : (Int32) × (Nat → Int32)) => post r (u.1) (u.2)) (fun (u : (Int32) × (Nat → Int32)) t => xPost (dC, dI) A (wld_X10_lay cI cJ cZ h_p0 ad_p0 p0_places p0_steps p0_pastFirst p0_past p0_goings p0_rowSize (u.1) p0_hasField p0_fieldSize p0_faultNow p0_hasTree p0_treeSize p0_weightCount p0_roundCount p0_setCount (u.2)) t) A
def w_X10_lay (p0_steps : Int32) (p0_ways : Int32) (p0_way : Nat → Int32) (a1 : Int32) (post : Int32 → (Int32) → (Nat → Int32) → Prop) : Prop :=
  w_X10_isStep p0_steps a1 (fun r1 =>
  (¬ r1 = 0 →
    (¬ p0_ways = (8000 : Int32) →
      vp_in p0_ways 8000 ∧
      ∀ x6 : Int32, x6 = (p0_ways + (1 : Int32)) →
      (post x6 x6 (upd p0_way p0_ways.toNatClampNeg a1))) ∧
    (p0_ways = (8000 : Int32) →
      (post (-2000000003 : Int32) p0_ways p0_way))) ∧
  (r1 = 0 →
    (post (-2000000001 : Int32) p0_ways p0_way)))
set_option maxHeartbeats 4000000 in
set_option maxRecDepth 100000 in
theorem c_X10_lay {l : Launch} {dC : Nat → ClassId} {dI : Nat → Nat → Nat} {sz : Nat} {cI cJ cZ : ClassId} {h_p0 : Nat} {ad_p0 : Nat → Nat} {p0_places : Int32} {p0_steps : Int32} {p0_pastFirst : Int32} {p0_past : Int32} {p0_goings : Int32} {p0_rowSize : Int32} {p0_ways : Int32} {p0_hasField : Int32} {p0_fieldSize : Int32} {p0_faultNow : Int32} {p0_hasTree : Int32} {p0_treeSize : Int32} {p0_weightCount : Int32} {p0_roundCount : Int32} {p0_setCount : Int32} {p0_way : Nat → Int32} {a1 : Int32} {post : Int32 → (Int32) → (Nat → Int32) → Prop} (hw : w_X10_lay p0_steps p0_ways p0_way a1 post) : Met l yX10_lay wsX10_lay ({ frames := 1, cells := 0, slots := 0, locals := 21 }) (va_Pc [.ref h_p0, .int a1] (xPre (dC, dI) cI cJ cZ (wld_X10_lay cI cJ cZ h_p0 ad_p0 p0_places p0_steps p0_pastFirst p0_past p0_goings p0_rowSize p0_ways p0_hasField p0_fieldSize p0_faultNow p0_hasTree p0_treeSize p0_weightCount p0_roundCount p0_setCount p0_way) sz)) (q_X10_lay dC dI cI cJ cZ h_p0 ad_p0 p0_places p0_steps p0_pastFirst p0_past p0_goings p0_rowSize p0_ways p0_hasField p0_fieldSize p0_faultNow p0_hasTree p0_treeSize p0_weightCount p0_roundCount p0_setCount p0_way post (va_A (wld_X10_lay cI cJ cZ h_p0 ad_p0 p0_places p0_steps p0_pastFirst p0_past p0_goings p0_rowSize p0_ways p0_hasField p0_fieldSize p0_faultNow p0_hasTree p0_treeSize p0_weightCount p0_roundCount p0_setCount p0_way) sz)) 0 0 (va_A (wld_X10_lay cI cJ cZ h_p0 ad_p0 p0_places p0_steps p0_pastFirst p0_past p0_goings p0_rowSize p0_ways p0_hasField p0_fieldSize p0_faultNow p0_hasTree p0_treeSize p0_weightCount p0_roundCount p0_setCount p0_way) sz) := by
  refine x_met (cc := cX10_lay) (maxL := 2) (ret := (some .int)) (own := RX10) (Qc := fun A => (q_X10_lay dC dI cI cJ cZ h_p0 ad_p0 p0_places p0_steps p0_pastFirst p0_past p0_goings p0_rowSize p0_ways p0_hasField p0_fieldSize p0_faultNow p0_hasTree p0_treeSize p0_weightCount p0_roundCount p0_setCount p0_way post A)) (by decide) rfl rfl (Nat.le_of_ble_eq_true rfl) ?_
  intro p e s m args below meth c A ls E0 hP hD hS hl
  obtain ⟨hx, hb, hr, hml, hown, hts, hlocks, hK, hA, n1, n2⟩ := id E0
  have iX10 : ∀ w ∈ u_ws RX10 TX10 50, w ∈ wsX10_lay := fun w h => List.mem_cons_of_mem _ (List.mem_append_right _ h)
  have hS0 := hS
  have hl : lv_has ls 2 [(0, .ref h_p0), (1, .int a1)] := hl
  unfold w_X10_lay at hw
  obtain ⟨H, hH⟩ : ∃ H, H = s.heap := ⟨_, rfl⟩
  have hS : va_S A s.heap H [] := by rw [hH]; exact hS
  have hP : va_P (dC, dI) vwCl (wld_X10_lay cI cJ cZ h_p0 ad_p0 p0_places p0_steps p0_pastFirst p0_past p0_goings p0_rowSize p0_ways p0_hasField p0_fieldSize p0_faultNow p0_hasTree p0_treeSize p0_weightCount p0_roundCount p0_setCount p0_way) H := by rw [hH]; exact hP
  suffices hG : W p l e ({ frames := 1, cells := 0, slots := 0, locals := 21 }) s m args below meth c H [] 0 0 (MQ below (q_X10_lay dC dI cI cJ cZ h_p0 ad_p0 p0_places p0_steps p0_pastFirst p0_past p0_goings p0_rowSize p0_ways p0_hasField p0_fieldSize p0_faultNow p0_hasTree p0_treeSize p0_weightCount p0_roundCount p0_setCount p0_way post A) args s 0 0 A) (F0 m 0 ls []) by rw [hH] at hG; exact hG
  clear hH
  refine lv_aload_n hx hb dX10_lay_0 rfl (lv_at hl 0 rfl) ?_
  refine lv_iload_n hx hb dX10_lay_1 rfl (lv_at hl 1 rfl) ?_
  obtain ⟨hPc, hDc⟩ := x_sub (wc := (wld_X10_isStep cI cJ cZ h_p0 ad_p0 p0_places p0_steps p0_pastFirst p0_past p0_goings p0_rowSize p0_ways p0_hasField p0_fieldSize p0_faultNow p0_hasTree p0_treeSize p0_weightCount p0_roundCount p0_setCount)) hP hD [0] (n := 2) rfl rfl (by decide +kernel)
  refine x_calli (ws' := fun (u : Unit) => (wld_X10_lay cI cJ cZ h_p0 ad_p0 p0_places p0_steps p0_pastFirst p0_past p0_goings p0_rowSize p0_ways p0_hasField p0_fieldSize p0_faultNow p0_hasTree p0_treeSize p0_weightCount p0_roundCount p0_setCount p0_way)) hP hD hS hA [0] [1] [1, 0] (n := 2) (k := 1) rfl (fun _ => rfl) rfl (by decide +kernel) (fun _ => rfl) (va_runV (As := [.int a1]) (rest := []) ⟨hx, hb, hml, hown, hts⟩ (c_X10_isStep (l := l) (dC := dC) (dI := dI) (cI := cI) (cJ := cJ) (cZ := cZ) (sz := H.size) (h_p0 := h_p0) (ad_p0 := ad_p0) (p0_places := p0_places) (p0_steps := p0_steps) (p0_pastFirst := p0_pastFirst) (p0_past := p0_past) (p0_goings := p0_goings) (p0_rowSize := p0_rowSize) (p0_ways := p0_ways) (p0_hasField := p0_hasField) (p0_fieldSize := p0_fieldSize) (p0_faultNow := p0_faultNow) (p0_hasTree := p0_hasTree) (p0_treeSize := p0_treeSize) (p0_weightCount := p0_weightCount) (p0_roundCount := p0_roundCount) (p0_setCount := p0_setCount) hw) (cwV 1 hts gX10_lay_X10_isStep rfl rfl rfl (by decide +kernel) ⟨Nat.le_of_ble_eq_true rfl, Nat.le_of_ble_eq_true rfl⟩) ⟨xPre_blind, va_recv hK hP (ci := 10) (q0 := 0) rfl rfl, xPre_at hK hPc hDc n1 n2⟩ rfl rfl hl.1 rfl (lv_room (Nat.le_of_ble_eq_true rfl)) dX10_lay_2 ⟨Nat.zero_le _, Nat.zero_le _⟩) (fun r1 u H locs hw hP hD hS => ?_)
  try dsimp only at hw
  have hP : va_P (dC, dI) vwCl (wld_X10_lay cI cJ cZ h_p0 ad_p0 p0_places p0_steps p0_pastFirst p0_past p0_goings p0_rowSize p0_ways p0_hasField p0_fieldSize p0_faultNow p0_hasTree p0_treeSize p0_weightCount p0_roundCount p0_setCount p0_way) H := hP
  have hD : va_D A (wld_X10_lay cI cJ cZ h_p0 ad_p0 p0_places p0_steps p0_pastFirst p0_past p0_goings p0_rowSize p0_ways p0_hasField p0_fieldSize p0_faultNow p0_hasTree p0_treeSize p0_weightCount p0_roundCount p0_setCount p0_way) := hD
  refine lv_if_ne (tgt := 11) hx hb dX10_lay_5 (by decide) (fun c2 => ?_) (fun c3 => ?_)
  · have hw := hw.1 c2
    refine lv_aload_n hx hb dX10_lay_11 rfl (lv_at hl 0 rfl) ?_
    refine va_get (D := (dC, dI)) (ci := 10) (v := .int p0_ways) (C := RX10) (T := TX10) (N := 50) hx hb hts iX10 hown hK hP 0 rfl rfl 21 (by decide) (hts (.fieldLink RX10 225 "NetHouseModel" "ways" "I") (by decide +kernel)) (fun _ h9 => h9) rfl dX10_lay_12 ?_
    refine lv_sipush (v := 8000) hx hb dX10_lay_15 (by decide) ?_
    refine lv_icmp_ne (tgt := 24) hx hb dX10_lay_18 (by decide) (fun c4 => ?_) (fun c5 => ?_)
    · have hw := hw.1 c4
      refine lv_aload_n hx hb dX10_lay_24 rfl (lv_at hl 0 rfl) ?_
      refine va_get (D := (dC, dI)) (ci := 10) (v := .ref (ad_p0 22)) (C := RX10) (T := TX10) (N := 50) hx hb hts iX10 hown hK hP 0 rfl rfl 22 (by decide) (hts (.fieldLink RX10 56 "NetHouseModel" "way" "[I") (by decide +kernel)) (fun _ h9 => h9) rfl dX10_lay_25 ?_
      refine lv_aload_n hx hb dX10_lay_28 rfl (lv_at hl 0 rfl) ?_
      refine va_get (D := (dC, dI)) (ci := 10) (v := .int p0_ways) (C := RX10) (T := TX10) (N := 50) hx hb hts iX10 hown hK hP 0 rfl rfl 21 (by decide) (hts (.fieldLink RX10 225 "NetHouseModel" "ways" "I") (by decide +kernel)) (fun _ h9 => h9) rfl dX10_lay_29 ?_
      refine lv_iload_n hx hb dX10_lay_32 rfl (lv_at hl 1 rfl) ?_
      refine va_iast hx hb hK hP hD hS 1 0 rfl rfl hw.1 dX10_lay_33 (fun H locs hP hD hS => ?_)
      have hw := hw.2
      have hP : va_P (dC, dI) vwCl (wld_X10_lay cI cJ cZ h_p0 ad_p0 p0_places p0_steps p0_pastFirst p0_past p0_goings p0_rowSize p0_ways p0_hasField p0_fieldSize p0_faultNow p0_hasTree p0_treeSize p0_weightCount p0_roundCount p0_setCount (upd p0_way p0_ways.toNatClampNeg a1)) H := hP
      have hD : va_D A (wld_X10_lay cI cJ cZ h_p0 ad_p0 p0_places p0_steps p0_pastFirst p0_past p0_goings p0_rowSize p0_ways p0_hasField p0_fieldSize p0_faultNow p0_hasTree p0_treeSize p0_weightCount p0_roundCount p0_setCount (upd p0_way p0_ways.toNatClampNeg a1)) := hD
      refine lv_aload_n hx hb dX10_lay_34 rfl (lv_at hl 0 rfl) ?_
      refine lv_dup hx hb dX10_lay_35 rfl ?_
      refine va_get (D := (dC, dI)) (ci := 10) (v := .int p0_ways) (C := RX10) (T := TX10) (N := 50) hx hb hts iX10 hown hK hP 0 rfl rfl 21 (by decide) (hts (.fieldLink RX10 225 "NetHouseModel" "ways" "I") (by decide +kernel)) (fun _ h9 => h9) rfl dX10_lay_36 ?_
      refine lv_iconst (v := 1) hx hb dX10_lay_39 (by decide) ?_
      refine lv_iadd hx hb dX10_lay_40 ?_
      refine lv_topi (fun x6 ex6 => ?_)
      have hw := hw x6 ex6
      refine va_put (D := (dC, dI)) (ci := 10) (v := .int x6) (ty := .int) (C := RX10) (T := TX10) (N := 50) hx hb hts iX10 tyX10 tyX10_ok nmX10 hown hK hP hD hS 0 rfl rfl 21 (by decide) (hts (.fieldLink RX10 225 "NetHouseModel" "ways" "I") (by decide +kernel)) (fun _ h9 => h9) rfl (by decide +kernel) rfl rfl (Nat.le_of_ble_eq_true rfl) dX10_lay_41 (fun H locs hP hD hS => ?_)
      have hP : va_P (dC, dI) vwCl (wld_X10_lay cI cJ cZ h_p0 ad_p0 p0_places p0_steps p0_pastFirst p0_past p0_goings p0_rowSize x6 p0_hasField p0_fieldSize p0_faultNow p0_hasTree p0_treeSize p0_weightCount p0_roundCount p0_setCount (upd p0_way p0_ways.toNatClampNeg a1)) H := hP
      have hD : va_D A (wld_X10_lay cI cJ cZ h_p0 ad_p0 p0_places p0_steps p0_pastFirst p0_past p0_goings p0_rowSize x6 p0_hasField p0_fieldSize p0_faultNow p0_hasTree p0_treeSize p0_weightCount p0_roundCount p0_setCount (upd p0_way p0_ways.toNatClampNeg a1)) := hD
      refine lv_aload_n hx hb dX10_lay_44 rfl (lv_at hl 0 rfl) ?_
      refine va_get (D := (dC, dI)) (ci := 10) (v := .int x6) (C := RX10) (T := TX10) (N := 50) hx hb hts iX10 hown hK hP 0 rfl rfl 21 (by decide) (hts (.fieldLink RX10 225 "NetHouseModel" "ways" "I") (by decide +kernel)) (fun _ h9 => h9) rfl dX10_lay_45 ?_
      exact x_iret (w1 := fun (u : (Int32) × (Nat → Int32)) => (wld_X10_lay cI cJ cZ h_p0 ad_p0 p0_places p0_steps p0_pastFirst p0_past p0_goings p0_rowSize (u.1) p0_hasField p0_fieldSize p0_faultNow p0_hasTree p0_treeSize p0_weightCount p0_roundCount p0_setCount (u.2))) hx hb hr hlocks (x6, (upd p0_way p0_ways.toNatClampNeg a1)) hw hP hD hS dX10_lay_48
    · have hw := hw.2 c5
      refine lv_ldc (v := -2000000003) hx hb hown (hts (.constant RX10 160 (-2000000003)) (by decide +kernel)) dX10_lay_21 ?_
      exact x_iret (w1 := fun (u : (Int32) × (Nat → Int32)) => (wld_X10_lay cI cJ cZ h_p0 ad_p0 p0_places p0_steps p0_pastFirst p0_past p0_goings p0_rowSize (u.1) p0_hasField p0_fieldSize p0_faultNow p0_hasTree p0_treeSize p0_weightCount p0_roundCount p0_setCount (u.2))) hx hb hr hlocks (p0_ways, p0_way) hw hP hD hS dX10_lay_23
  · have hw := hw.2 c3
    refine lv_ldc (v := -2000000001) hx hb hown (hts (.constant RX10 159 (-2000000001)) (by decide +kernel)) dX10_lay_8 ?_
    exact x_iret (w1 := fun (u : (Int32) × (Nat → Int32)) => (wld_X10_lay cI cJ cZ h_p0 ad_p0 p0_places p0_steps p0_pastFirst p0_past p0_goings p0_rowSize (u.1) p0_hasField p0_fieldSize p0_faultNow p0_hasTree p0_treeSize p0_weightCount p0_roundCount p0_setCount (u.2))) hx hb hr hlocks (p0_ways, p0_way) hw hP hD hS dX10_lay_10
abbrev wld_X10_lift (cI cJ cZ : ClassId) (h_p0 : Nat) (ad_p0 : Nat → Nat) (p0_places : Int32) (p0_steps : Int32) (p0_pastFirst : Int32) (p0_past : Int32) (p0_goings : Int32) (p0_rowSize : Int32) (p0_ways : Int32) (p0_hasField : Int32) (p0_fieldSize : Int32) (p0_faultNow : Int32) (p0_hasTree : Int32) (p0_treeSize : Int32) (p0_weightCount : Int32) (p0_roundCount : Int32) (p0_setCount : Int32) : va_W := [(h_p0, .inr (10, [.int p0_places, .int p0_steps, .ref (ad_p0 2), .ref (ad_p0 3), .ref (ad_p0 4), .ref (ad_p0 5), .ref (ad_p0 6), .ref (ad_p0 7), .ref (ad_p0 8), .ref (ad_p0 9), .ref (ad_p0 10), .ref (ad_p0 11), .ref (ad_p0 12), .ref (ad_p0 13), .ref (ad_p0 14), .int p0_pastFirst, .int p0_past, .int p0_goings, .int p0_rowSize, .ref (ad_p0 19), .ref (ad_p0 20), .int p0_ways, .ref (ad_p0 22), .ref (ad_p0 23), .int p0_hasField, .int p0_fieldSize, .ref (ad_p0 26), .ref (ad_p0 27), .ref (ad_p0 28), .ref (ad_p0 29), .ref (ad_p0 30), .ref (ad_p0 31), .ref (ad_p0 32), .int p0_faultNow, .int p0_hasTree, .int p0_treeSize, .ref (ad_p0 36), .ref (ad_p0 37), .ref (ad_p0 38), .ref (ad_p0 39), .ref (ad_p0 40), .ref (ad_p0 41), .ref (ad_p0 42), .int p0_weightCount, .ref (ad_p0 44), .int p0_roundCount, .ref (ad_p0 46), .int p0_setCount, .ref (ad_p0 48), .ref (ad_p0 49)]))]
abbrev q_X10_lift (dC : Nat → ClassId) (dI : Nat → Nat → Nat) (cI cJ cZ : ClassId) (h_p0 : Nat) (ad_p0 : Nat → Nat) (p0_places : Int32) (p0_steps : Int32) (p0_pastFirst : Int32) (p0_past : Int32) (p0_goings : Int32) (p0_rowSize : Int32) (p0_ways : Int32) (p0_hasField : Int32) (p0_fieldSize : Int32) (p0_faultNow : Int32) (p0_hasTree : Int32) (p0_treeSize : Int32) (p0_weightCount : Int32) (p0_roundCount : Int32) (p0_setCount : Int32) (post : Int32 → (Int32) → Prop) (A : Nat → Prop) : Array Value → State → Outcome → State → Prop := va_Qi (fun r (u : (Int32)) => post r u) (fun (u : (Int32)) t => xPost (dC, dI) A (wld_X10_lift cI cJ cZ h_p0 ad_p0 p0_places p0_steps p0_pastFirst p0_past p0_goings p0_rowSize u p0_hasField p0_fieldSize p0_faultNow p0_hasTree p0_treeSize p0_weightCount p0_roundCount p0_setCount) t) A
def w_X10_lift (p0_ways : Int32) (post : Int32 → (Int32) → Prop) : Prop :=
  (post p0_ways (0 : Int32))
set_option maxHeartbeats 4000000 in
set_option maxRecDepth 100000 in
theorem c_X10_lift {l : Launch} {dC : Nat → ClassId} {dI : Nat → Nat → Nat} {sz : Nat} {cI cJ cZ : ClassId} {h_p0 : Nat} {ad_p0 : Nat → Nat} {p0_places : Int32} {p0_steps : Int32} {p0_pastFirst : Int32} {p0_past : Int32} {p0_goings : Int32} {p0_rowSize : Int32} {p0_ways : Int32} {p0_hasField : Int32} {p0_fieldSize : Int32} {p0_faultNow : Int32} {p0_hasTree : Int32} {p0_treeSize : Int32} {p0_weightCount : Int32} {p0_roundCount : Int32} {p0_setCount : Int32}  {post : Int32 → (Int32) → Prop} (hw : w_X10_lift p0_ways post) : Met l yX10_lift wsX10_lift ({ frames := 0, cells := 0, slots := 0, locals := 0 }) (va_Pc [.ref h_p0] (xPre (dC, dI) cI cJ cZ (wld_X10_lift cI cJ cZ h_p0 ad_p0 p0_places p0_steps p0_pastFirst p0_past p0_goings p0_rowSize p0_ways p0_hasField p0_fieldSize p0_faultNow p0_hasTree p0_treeSize p0_weightCount p0_roundCount p0_setCount) sz)) (q_X10_lift dC dI cI cJ cZ h_p0 ad_p0 p0_places p0_steps p0_pastFirst p0_past p0_goings p0_rowSize p0_ways p0_hasField p0_fieldSize p0_faultNow p0_hasTree p0_treeSize p0_weightCount p0_roundCount p0_setCount post (va_A (wld_X10_lift cI cJ cZ h_p0 ad_p0 p0_places p0_steps p0_pastFirst p0_past p0_goings p0_rowSize p0_ways p0_hasField p0_fieldSize p0_faultNow p0_hasTree p0_treeSize p0_weightCount p0_roundCount p0_setCount) sz)) 0 0 (va_A (wld_X10_lift cI cJ cZ h_p0 ad_p0 p0_places p0_steps p0_pastFirst p0_past p0_goings p0_rowSize p0_ways p0_hasField p0_fieldSize p0_faultNow p0_hasTree p0_treeSize p0_weightCount p0_roundCount p0_setCount) sz) := by
  refine x_met (cc := cX10_lift) (maxL := 2) (ret := (some .int)) (own := RX10) (Qc := fun A => (q_X10_lift dC dI cI cJ cZ h_p0 ad_p0 p0_places p0_steps p0_pastFirst p0_past p0_goings p0_rowSize p0_ways p0_hasField p0_fieldSize p0_faultNow p0_hasTree p0_treeSize p0_weightCount p0_roundCount p0_setCount post A)) (by decide) rfl rfl (Nat.le_of_ble_eq_true rfl) ?_
  intro p e s m args below meth c A ls E0 hP hD hS hl
  obtain ⟨hx, hb, hr, hml, hown, hts, hlocks, hK, hA, n1, n2⟩ := id E0
  have iX10 : ∀ w ∈ u_ws RX10 TX10 50, w ∈ wsX10_lift := fun w h => List.mem_cons_of_mem _ (List.mem_append_right _ h)
  have hS0 := hS
  have hl : lv_has ls 2 [(0, .ref h_p0)] := hl
  unfold w_X10_lift at hw
  obtain ⟨H, hH⟩ : ∃ H, H = s.heap := ⟨_, rfl⟩
  have hS : va_S A s.heap H [] := by rw [hH]; exact hS
  have hP : va_P (dC, dI) vwCl (wld_X10_lift cI cJ cZ h_p0 ad_p0 p0_places p0_steps p0_pastFirst p0_past p0_goings p0_rowSize p0_ways p0_hasField p0_fieldSize p0_faultNow p0_hasTree p0_treeSize p0_weightCount p0_roundCount p0_setCount) H := by rw [hH]; exact hP
  suffices hG : W p l e ({ frames := 0, cells := 0, slots := 0, locals := 0 }) s m args below meth c H [] 0 0 (MQ below (q_X10_lift dC dI cI cJ cZ h_p0 ad_p0 p0_places p0_steps p0_pastFirst p0_past p0_goings p0_rowSize p0_ways p0_hasField p0_fieldSize p0_faultNow p0_hasTree p0_treeSize p0_weightCount p0_roundCount p0_setCount post A) args s 0 0 A) (F0 m 0 ls []) by rw [hH] at hG; exact hG
  clear hH
  refine lv_aload_n hx hb dX10_lift_0 rfl (lv_at hl 0 rfl) ?_
  refine va_get (D := (dC, dI)) (ci := 10) (v := .int p0_ways) (C := RX10) (T := TX10) (N := 50) hx hb hts iX10 hown hK hP 0 rfl rfl 21 (by decide) (hts (.fieldLink RX10 225 "NetHouseModel" "ways" "I") (by decide +kernel)) (fun _ h9 => h9) rfl dX10_lift_1 ?_
  refine lv_istore_n (lv' := [(1, .int p0_ways), (0, .ref h_p0)]) hx hb dX10_lift_4 rfl hl (by decide) rfl (fun ls hl => ?_)
  refine lv_aload_n hx hb dX10_lift_5 rfl (lv_at hl 1 rfl) ?_
  refine lv_iconst (v := 0) hx hb dX10_lift_6 (by decide) ?_
  refine va_put (D := (dC, dI)) (ci := 10) (v := .int (0 : Int32)) (ty := .int) (C := RX10) (T := TX10) (N := 50) hx hb hts iX10 tyX10 tyX10_ok nmX10 hown hK hP hD hS 0 rfl rfl 21 (by decide) (hts (.fieldLink RX10 225 "NetHouseModel" "ways" "I") (by decide +kernel)) (fun _ h9 => h9) rfl (by decide +kernel) rfl rfl (Nat.le_of_ble_eq_true rfl) dX10_lift_7 (fun H locs hP hD hS => ?_)
  have hP : va_P (dC, dI) vwCl (wld_X10_lift cI cJ cZ h_p0 ad_p0 p0_places p0_steps p0_pastFirst p0_past p0_goings p0_rowSize (0 : Int32) p0_hasField p0_fieldSize p0_faultNow p0_hasTree p0_treeSize p0_weightCount p0_roundCount p0_setCount) H := hP
  have hD : va_D A (wld_X10_lift cI cJ cZ h_p0 ad_p0 p0_places p0_steps p0_pastFirst p0_past p0_goings p0_rowSize (0 : Int32) p0_hasField p0_fieldSize p0_faultNow p0_hasTree p0_treeSize p0_weightCount p0_roundCount p0_setCount) := hD
  refine lv_iload_n hx hb dX10_lift_10 rfl (lv_at hl 0 rfl) ?_
  exact x_iret (w1 := fun (u : (Int32)) => (wld_X10_lift cI cJ cZ h_p0 ad_p0 p0_places p0_steps p0_pastFirst p0_past p0_goings p0_rowSize u p0_hasField p0_fieldSize p0_faultNow p0_hasTree p0_treeSize p0_weightCount p0_roundCount p0_setCount)) hx hb hr hlocks ((0 : Int32)) hw hP hD hS dX10_lift_11
abbrev wld_X10_walk (cI cJ cZ : ClassId) (h_p0 : Nat) (ad_p0 : Nat → Nat) (p0_places : Int32) (p0_steps : Int32) (p0_pastFirst : Int32) (p0_past : Int32) (p0_goings : Int32) (p0_rowSize : Int32) (p0_ways : Int32) (p0_hasField : Int32) (p0_fieldSize : Int32) (p0_faultNow : Int32) (p0_hasTree : Int32) (p0_treeSize : Int32) (p0_weightCount : Int32) (p0_roundCount : Int32) (p0_setCount : Int32) (p0_way : Nat → Int32) : va_W := [(h_p0, .inr (10, [.int p0_places, .int p0_steps, .ref (ad_p0 2), .ref (ad_p0 3), .ref (ad_p0 4), .ref (ad_p0 5), .ref (ad_p0 6), .ref (ad_p0 7), .ref (ad_p0 8), .ref (ad_p0 9), .ref (ad_p0 10), .ref (ad_p0 11), .ref (ad_p0 12), .ref (ad_p0 13), .ref (ad_p0 14), .int p0_pastFirst, .int p0_past, .int p0_goings, .int p0_rowSize, .ref (ad_p0 19), .ref (ad_p0 20), .int p0_ways, .ref (ad_p0 22), .ref (ad_p0 23), .int p0_hasField, .int p0_fieldSize, .ref (ad_p0 26), .ref (ad_p0 27), .ref (ad_p0 28), .ref (ad_p0 29), .ref (ad_p0 30), .ref (ad_p0 31), .ref (ad_p0 32), .int p0_faultNow, .int p0_hasTree, .int p0_treeSize, .ref (ad_p0 36), .ref (ad_p0 37), .ref (ad_p0 38), .ref (ad_p0 39), .ref (ad_p0 40), .ref (ad_p0 41), .ref (ad_p0 42), .int p0_weightCount, .ref (ad_p0 44), .int p0_roundCount, .ref (ad_p0 46), .int p0_setCount, .ref (ad_p0 48), .ref (ad_p0 49)])), ((ad_p0 22), .inl (cI, 8000, .inl p0_way))]
abbrev q_X10_walk (dC : Nat → ClassId) (dI : Nat → Nat → Nat) (cI cJ cZ : ClassId) (h_p0 : Nat) (ad_p0 : Nat → Nat) (p0_places : Int32) (p0_steps : Int32) (p0_pastFirst : Int32) (p0_past : Int32) (p0_goings : Int32) (p0_rowSize : Int32) (p0_ways : Int32) (p0_hasField : Int32) (p0_fieldSize : Int32) (p0_faultNow : Int32) (p0_hasTree : Int32) (p0_treeSize : Int32) (p0_weightCount : Int32) (p0_roundCount : Int32) (p0_setCount : Int32) (p0_way : Nat → Int32) (post : Int32 → Prop) (A : Nat → Prop) : Array Value → State → Outcome → State → Prop := va_Qi (fun r (u : Unit) => post r ) (fun (u : Unit) t => xPost (dC, dI) A (wld_X10_walk cI cJ cZ h_p0 ad_p0 p0_places p0_steps p0_pastFirst p0_past p0_goings p0_rowSize p0_ways p0_hasField p0_fieldSize p0_faultNow p0_hasTree p0_treeSize p0_weightCount p0_roundCount p0_setCount p0_way) t) A
def w_X10_walk (p0_ways : Int32) (p0_way : Nat → Int32) (a1 : Int32) (post : Int32 → Prop) : Prop :=
  w_X10_isIn a1 (0 : Int32) (p0_ways - (1 : Int32)) (fun r1 =>
  (r1 = 0 →
    (post (-2000000001 : Int32))) ∧
  (¬ r1 = 0 →
    vp_in a1 8000 ∧
    (post (p0_way a1.toNatClampNeg))))
set_option maxHeartbeats 4000000 in
set_option maxRecDepth 100000 in
theorem c_X10_walk {l : Launch} {dC : Nat → ClassId} {dI : Nat → Nat → Nat} {sz : Nat} {cI cJ cZ : ClassId} {h_p0 : Nat} {ad_p0 : Nat → Nat} {p0_places : Int32} {p0_steps : Int32} {p0_pastFirst : Int32} {p0_past : Int32} {p0_goings : Int32} {p0_rowSize : Int32} {p0_ways : Int32} {p0_hasField : Int32} {p0_fieldSize : Int32} {p0_faultNow : Int32} {p0_hasTree : Int32} {p0_treeSize : Int32} {p0_weightCount : Int32} {p0_roundCount : Int32} {p0_setCount : Int32} {p0_way : Nat → Int32} {a1 : Int32} {post : Int32 → Prop} (hw : w_X10_walk p0_ways p0_way a1 post) : Met l yX10_walk wsX10_walk ({ frames := 1, cells := 0, slots := 0, locals := 22 }) (va_Pc [.ref h_p0, .int a1] (xPre (dC, dI) cI cJ cZ (wld_X10_walk cI cJ cZ h_p0 ad_p0 p0_places p0_steps p0_pastFirst p0_past p0_goings p0_rowSize p0_ways p0_hasField p0_fieldSize p0_faultNow p0_hasTree p0_treeSize p0_weightCount p0_roundCount p0_setCount p0_way) sz)) (q_X10_walk dC dI cI cJ cZ h_p0 ad_p0 p0_places p0_steps p0_pastFirst p0_past p0_goings p0_rowSize p0_ways p0_hasField p0_fieldSize p0_faultNow p0_hasTree p0_treeSize p0_weightCount p0_roundCount p0_setCount p0_way post (va_A (wld_X10_walk cI cJ cZ h_p0 ad_p0 p0_places p0_steps p0_pastFirst p0_past p0_goings p0_rowSize p0_ways p0_hasField p0_fieldSize p0_faultNow p0_hasTree p0_treeSize p0_weightCount p0_roundCount p0_setCount p0_way) sz)) 0 0 (va_A (wld_X10_walk cI cJ cZ h_p0 ad_p0 p0_places p0_steps p0_pastFirst p0_past p0_goings p0_rowSize p0_ways p0_hasField p0_fieldSize p0_faultNow p0_hasTree p0_treeSize p0_weightCount p0_roundCount p0_setCount p0_way) sz) := by
  refine x_met (cc := cX10_walk) (maxL := 2) (ret := (some .int)) (own := RX10) (Qc := fun A => (q_X10_walk dC dI cI cJ cZ h_p0 ad_p0 p0_places p0_steps p0_pastFirst p0_past p0_goings p0_rowSize p0_ways p0_hasField p0_fieldSize p0_faultNow p0_hasTree p0_treeSize p0_weightCount p0_roundCount p0_setCount p0_way post A)) (by decide) rfl rfl (Nat.le_of_ble_eq_true rfl) ?_
  intro p e s m args below meth c A ls E0 hP hD hS hl
  obtain ⟨hx, hb, hr, hml, hown, hts, hlocks, hK, hA, n1, n2⟩ := id E0
  have iX10 : ∀ w ∈ u_ws RX10 TX10 50, w ∈ wsX10_walk := fun w h => List.mem_cons_of_mem _ (List.mem_append_right _ h)
  have hS0 := hS
  have hl : lv_has ls 2 [(0, .ref h_p0), (1, .int a1)] := hl
  unfold w_X10_walk at hw
  obtain ⟨H, hH⟩ : ∃ H, H = s.heap := ⟨_, rfl⟩
  have hS : va_S A s.heap H [] := by rw [hH]; exact hS
  have hP : va_P (dC, dI) vwCl (wld_X10_walk cI cJ cZ h_p0 ad_p0 p0_places p0_steps p0_pastFirst p0_past p0_goings p0_rowSize p0_ways p0_hasField p0_fieldSize p0_faultNow p0_hasTree p0_treeSize p0_weightCount p0_roundCount p0_setCount p0_way) H := by rw [hH]; exact hP
  suffices hG : W p l e ({ frames := 1, cells := 0, slots := 0, locals := 22 }) s m args below meth c H [] 0 0 (MQ below (q_X10_walk dC dI cI cJ cZ h_p0 ad_p0 p0_places p0_steps p0_pastFirst p0_past p0_goings p0_rowSize p0_ways p0_hasField p0_fieldSize p0_faultNow p0_hasTree p0_treeSize p0_weightCount p0_roundCount p0_setCount p0_way post A) args s 0 0 A) (F0 m 0 ls []) by rw [hH] at hG; exact hG
  clear hH
  refine lv_iload_n hx hb dX10_walk_0 rfl (lv_at hl 1 rfl) ?_
  refine lv_iconst (v := 0) hx hb dX10_walk_1 (by decide) ?_
  refine lv_aload_n hx hb dX10_walk_2 rfl (lv_at hl 0 rfl) ?_
  refine va_get (D := (dC, dI)) (ci := 10) (v := .int p0_ways) (C := RX10) (T := TX10) (N := 50) hx hb hts iX10 hown hK hP 0 rfl rfl 21 (by decide) (hts (.fieldLink RX10 225 "NetHouseModel" "ways" "I") (by decide +kernel)) (fun _ h9 => h9) rfl dX10_walk_3 ?_
  refine lv_iconst (v := 1) hx hb dX10_walk_6 (by decide) ?_
  refine lv_isub hx hb dX10_walk_7 ?_
  obtain ⟨hPc, hDc⟩ := x_sub (wc := (wld_X10_isIn cI cJ cZ )) hP hD [] (n := 2) rfl rfl (by decide +kernel)
  refine x_calli (ws' := fun (u : Unit) => (wld_X10_walk cI cJ cZ h_p0 ad_p0 p0_places p0_steps p0_pastFirst p0_past p0_goings p0_rowSize p0_ways p0_hasField p0_fieldSize p0_faultNow p0_hasTree p0_treeSize p0_weightCount p0_roundCount p0_setCount p0_way)) hP hD hS hA [] [0, 1] [0, 1] (n := 2) (k := 0) rfl (fun _ => rfl) rfl (by decide +kernel) (fun _ => rfl) (va_runS (As := [.int a1, .int (0 : Int32), .int (p0_ways - (1 : Int32))]) (rest := []) ⟨hx, hb, hml, hown, hts⟩ (c_X10_isIn (l := l) (dC := dC) (dI := dI) (cI := cI) (cJ := cJ) (cZ := cZ) (sz := H.size) hw) (va_cwS 3 hts gX10_walk_X10_isIn rfl rfl rfl (by decide +kernel) ⟨Nat.le_of_ble_eq_true rfl, Nat.le_of_ble_eq_true rfl⟩) ⟨xPre_blind, xPre_at hK hPc hDc n1 n2⟩ rfl rfl hl.1 rfl (lv_room (Nat.le_of_ble_eq_true rfl)) dX10_walk_8 ⟨Nat.zero_le _, Nat.zero_le _⟩) (fun r1 u H locs hw hP hD hS => ?_)
  try dsimp only at hw
  have hP : va_P (dC, dI) vwCl (wld_X10_walk cI cJ cZ h_p0 ad_p0 p0_places p0_steps p0_pastFirst p0_past p0_goings p0_rowSize p0_ways p0_hasField p0_fieldSize p0_faultNow p0_hasTree p0_treeSize p0_weightCount p0_roundCount p0_setCount p0_way) H := hP
  have hD : va_D A (wld_X10_walk cI cJ cZ h_p0 ad_p0 p0_places p0_steps p0_pastFirst p0_past p0_goings p0_rowSize p0_ways p0_hasField p0_fieldSize p0_faultNow p0_hasTree p0_treeSize p0_weightCount p0_roundCount p0_setCount p0_way) := hD
  refine lv_if_eq (tgt := 23) hx hb dX10_walk_11 (by decide) (fun c2 => ?_) (fun c3 => ?_)
  · have hw := hw.1 c2
    refine lv_ldc (v := -2000000001) hx hb hown (hts (.constant RX10 159 (-2000000001)) (by decide +kernel)) dX10_walk_23 ?_
    exact x_iret (w1 := fun (u : Unit) => (wld_X10_walk cI cJ cZ h_p0 ad_p0 p0_places p0_steps p0_pastFirst p0_past p0_goings p0_rowSize p0_ways p0_hasField p0_fieldSize p0_faultNow p0_hasTree p0_treeSize p0_weightCount p0_roundCount p0_setCount p0_way)) hx hb hr hlocks () hw hP hD hS dX10_walk_25
  · have hw := hw.2 c3
    refine lv_aload_n hx hb dX10_walk_14 rfl (lv_at hl 0 rfl) ?_
    refine va_get (D := (dC, dI)) (ci := 10) (v := .ref (ad_p0 22)) (C := RX10) (T := TX10) (N := 50) hx hb hts iX10 hown hK hP 0 rfl rfl 22 (by decide) (hts (.fieldLink RX10 56 "NetHouseModel" "way" "[I") (by decide +kernel)) (fun _ h9 => h9) rfl dX10_walk_15 ?_
    refine lv_iload_n hx hb dX10_walk_18 rfl (lv_at hl 1 rfl) ?_
    refine va_iald hx hb hK hP 1 0 rfl rfl hw.1 dX10_walk_19 ?_
    have hw := hw.2
    refine lv_goto (tgt := 25) hx hb dX10_walk_20 (by decide) ?_
    exact x_iret (w1 := fun (u : Unit) => (wld_X10_walk cI cJ cZ h_p0 ad_p0 p0_places p0_steps p0_pastFirst p0_past p0_goings p0_rowSize p0_ways p0_hasField p0_fieldSize p0_faultNow p0_hasTree p0_treeSize p0_weightCount p0_roundCount p0_setCount p0_way)) hx hb hr hlocks () hw hP hD hS dX10_walk_25
abbrev wld_X10_hasColour (cI cJ cZ : ClassId) (h_p0 : Nat) (ad_p0 : Nat → Nat) (p0_places : Int32) (p0_steps : Int32) (p0_pastFirst : Int32) (p0_past : Int32) (p0_goings : Int32) (p0_rowSize : Int32) (p0_ways : Int32) (p0_hasField : Int32) (p0_fieldSize : Int32) (p0_faultNow : Int32) (p0_hasTree : Int32) (p0_treeSize : Int32) (p0_weightCount : Int32) (p0_roundCount : Int32) (p0_setCount : Int32) (p0_colour : Nat → Int32) : va_W := [(h_p0, .inr (10, [.int p0_places, .int p0_steps, .ref (ad_p0 2), .ref (ad_p0 3), .ref (ad_p0 4), .ref (ad_p0 5), .ref (ad_p0 6), .ref (ad_p0 7), .ref (ad_p0 8), .ref (ad_p0 9), .ref (ad_p0 10), .ref (ad_p0 11), .ref (ad_p0 12), .ref (ad_p0 13), .ref (ad_p0 14), .int p0_pastFirst, .int p0_past, .int p0_goings, .int p0_rowSize, .ref (ad_p0 19), .ref (ad_p0 20), .int p0_ways, .ref (ad_p0 22), .ref (ad_p0 23), .int p0_hasField, .int p0_fieldSize, .ref (ad_p0 26), .ref (ad_p0 27), .ref (ad_p0 28), .ref (ad_p0 29), .ref (ad_p0 30), .ref (ad_p0 31), .ref (ad_p0 32), .int p0_faultNow, .int p0_hasTree, .int p0_treeSize, .ref (ad_p0 36), .ref (ad_p0 37), .ref (ad_p0 38), .ref (ad_p0 39), .ref (ad_p0 40), .ref (ad_p0 41), .ref (ad_p0 42), .int p0_weightCount, .ref (ad_p0 44), .int p0_roundCount, .ref (ad_p0 46), .int p0_setCount, .ref (ad_p0 48), .ref (ad_p0 49)])), ((ad_p0 2), .inl (cI, 16, .inl p0_colour))]
abbrev q_X10_hasColour (dC : Nat → ClassId) (dI : Nat → Nat → Nat) (cI cJ cZ : ClassId) (h_p0 : Nat) (ad_p0 : Nat → Nat) (p0_places : Int32) (p0_steps : Int32) (p0_pastFirst : Int32) (p0_past : Int32) (p0_goings : Int32) (p0_rowSize : Int32) (p0_ways : Int32) (p0_hasField : Int32) (p0_fieldSize : Int32) (p0_faultNow : Int32) (p0_hasTree : Int32) (p0_treeSize : Int32) (p0_weightCount : Int32) (p0_roundCount : Int32) (p0_setCount : Int32) (p0_colour : Nat → Int32) (post : Int32 → Prop) (A : Nat → Prop) : Array Value → State → Outcome → State → Prop := va_Qi (fun r (u : Unit) => post r ) (fun (u : Unit) t => xPost (dC, dI) A (wld_X10_hasColour cI cJ cZ h_p0 ad_p0 p0_places p0_steps p0_pastFirst p0_past p0_goings p0_rowSize p0_ways p0_hasField p0_fieldSize p0_faultNow p0_hasTree p0_treeSize p0_weightCount p0_roundCount p0_setCount p0_colour) t) A
def w_X10_hasColour_L4b (p0_places : Int32) (p0_colour : Nat → Int32) (post : Int32 → Prop) (K : (Int32) → (Int32) → Prop) (rec : (Int32) → (Int32) → Prop) (v1 : Int32) (v2 : Int32) : Prop :=
    (p0_places ≤ v2 →
      K v1 v2) ∧
    (¬ p0_places ≤ v2 →
      (¬ v1 = 0 →
        ∀ x5 : Int32, x5 = v2 + (1 : Int32) →
        rec (1 : Int32) x5) ∧
      (v1 = 0 →
        vp_in v2 16 ∧
        (¬ (p0_colour v2.toNatClampNeg) = (1 : Int32) →
          ∀ x8 : Int32, x8 = v2 + (1 : Int32) →
          rec (0 : Int32) x8) ∧
        ((p0_colour v2.toNatClampNeg) = (1 : Int32) →
          ∀ x9 : Int32, x9 = v2 + (1 : Int32) →
          rec (1 : Int32) x9)))
def w_X10_hasColour_L4 (p0_places : Int32) (p0_colour : Nat → Int32) (post : Int32 → Prop) (K : (Int32) → (Int32) → Prop) : Nat → (Int32) → (Int32) → Prop
  | 0, _, _ => False
  | n + 1, v1, v2 => w_X10_hasColour_L4b p0_places p0_colour post K (w_X10_hasColour_L4 p0_places p0_colour post K n) v1 v2
def w_X10_hasColour (p0_places : Int32) (p0_colour : Nat → Int32) (post : Int32 → Prop) : Prop :=
  ∃ n : Nat, w_X10_hasColour_L4 p0_places p0_colour post (fun v11 v12 =>
      v11 &&& 1 = v11 ∧
      (post v11)) n (0 : Int32) (0 : Int32)
set_option maxHeartbeats 4000000 in
set_option maxRecDepth 100000 in
theorem c_X10_hasColour_L4 {p : Program} {l : Launch} {e : Env} {s : State} {m : MethodId} {args : Array Value} {below : List Frame} {meth : Method} {c : Code} {dC : Nat → ClassId} {dI : Nat → Nat → Nat} {A : Nat → Prop} {cI cJ cZ : ClassId} {h_p0 : Nat} {ad_p0 : Nat → Nat} {p0_places : Int32} {p0_steps : Int32} {p0_pastFirst : Int32} {p0_past : Int32} {p0_goings : Int32} {p0_rowSize : Int32} {p0_ways : Int32} {p0_hasField : Int32} {p0_fieldSize : Int32} {p0_faultNow : Int32} {p0_hasTree : Int32} {p0_treeSize : Int32} {p0_weightCount : Int32} {p0_roundCount : Int32} {p0_setCount : Int32} {p0_colour : Nat → Int32}  {post : Int32 → Prop} {K : (Int32) → (Int32) → Prop} (E0 : xEnv p s m args meth c cX10_hasColour (some .boolean) 3 RX10 wsX10_hasColour (dC, dI) cI cJ cZ A) (hk : ∀ (v1 : Int32) (v2 : Int32) (H : Heap) (locs : List Loc) (ls : Array Slot), K v1 v2 → va_P (dC, dI) vwCl (wld_X10_hasColour cI cJ cZ h_p0 ad_p0 p0_places p0_steps p0_pastFirst p0_past p0_goings p0_rowSize p0_ways p0_hasField p0_fieldSize p0_faultNow p0_hasTree p0_treeSize p0_weightCount p0_roundCount p0_setCount p0_colour) H → va_D A (wld_X10_hasColour cI cJ cZ h_p0 ad_p0 p0_places p0_steps p0_pastFirst p0_past p0_goings p0_rowSize p0_ways p0_hasField p0_fieldSize p0_faultNow p0_hasTree p0_treeSize p0_weightCount p0_roundCount p0_setCount p0_colour) → va_S A s.heap H locs → lv_has ls 3 [(1, .int v1)] → W p l e ({ frames := 0, cells := 0, slots := 0, locals := 0 }) s m args below meth c H locs 0 0 (MQ below (q_X10_hasColour dC dI cI cJ cZ h_p0 ad_p0 p0_places p0_steps p0_pastFirst p0_past p0_goings p0_rowSize p0_ways p0_hasField p0_fieldSize p0_faultNow p0_hasTree p0_treeSize p0_weightCount p0_roundCount p0_setCount p0_colour post A) args s 0 0 A) (F0 m 38 ls [])) : ∀ (n : Nat) (v1 : Int32) (v2 : Int32), w_X10_hasColour_L4 p0_places p0_colour post K n v1 v2 → ∀ (H : Heap) (locs : List Loc) (ls : Array Slot), va_P (dC, dI) vwCl (wld_X10_hasColour cI cJ cZ h_p0 ad_p0 p0_places p0_steps p0_pastFirst p0_past p0_goings p0_rowSize p0_ways p0_hasField p0_fieldSize p0_faultNow p0_hasTree p0_treeSize p0_weightCount p0_roundCount p0_setCount p0_colour) H → va_D A (wld_X10_hasColour cI cJ cZ h_p0 ad_p0 p0_places p0_steps p0_pastFirst p0_past p0_goings p0_rowSize p0_ways p0_hasField p0_fieldSize p0_faultNow p0_hasTree p0_treeSize p0_weightCount p0_roundCount p0_setCount p0_colour) → va_S A s.heap H locs → lv_has ls 3 [(0, .ref h_p0), (1, .int v1), (2, .int v2)] → W p l e ({ frames := 0, cells := 0, slots := 0, locals := 0 }) s m args below meth c H locs 0 0 (MQ below (q_X10_hasColour dC dI cI cJ cZ h_p0 ad_p0 p0_places p0_steps p0_pastFirst p0_past p0_goings p0_rowSize p0_ways p0_hasField p0_fieldSize p0_faultNow p0_hasTree p0_treeSize p0_weightCount p0_roundCount p0_setCount p0_colour post A) args s 0 0 A) (F0 m 4 ls []) := by
  obtain ⟨hx, hb, hr, hml, hown, hts, hlocks, hK, hA, n1, n2⟩ := id E0
  have iX10 : ∀ w ∈ u_ws RX10 TX10 50, w ∈ wsX10_hasColour := fun w h => List.mem_cons_of_mem _ (List.mem_append_right _ h)
  intro n
  induction n with
  | zero => intro v1 v2 hw; exact hw.elim
  | succ n ih =>
    intro v1 v2 hw H locs ls hP hD hS hl
    have hw : w_X10_hasColour_L4b p0_places p0_colour post K (w_X10_hasColour_L4 p0_places p0_colour post K n) v1 v2 := hw
    unfold w_X10_hasColour_L4b at hw
    refine lv_iload_n hx hb dX10_hasColour_4 rfl (lv_at hl 2 rfl) ?_
    refine lv_aload_n hx hb dX10_hasColour_5 rfl (lv_at hl 0 rfl) ?_
    refine va_get (D := (dC, dI)) (ci := 10) (v := .int p0_places) (C := RX10) (T := TX10) (N := 50) hx hb hts iX10 hown hK hP 0 rfl rfl 0 (by decide) (hts (.fieldLink RX10 127 "NetHouseModel" "places" "I") (by decide +kernel)) (fun _ h9 => h9) rfl dX10_hasColour_6 ?_
    refine lv_icmp_ge (tgt := 38) hx hb dX10_hasColour_9 (by decide) (fun c1 => ?_) (fun c2 => ?_)
    · have hw := hw.1 c1
      exact hk _ _ _ _ _ hw hP hD hS (lv_sub hl [1] rfl)
    · have hw := hw.2 c2
      refine lv_iload_n hx hb dX10_hasColour_12 rfl (lv_at hl 1 rfl) ?_
      refine lv_if_ne (tgt := 26) hx hb dX10_hasColour_13 (by decide) (fun c3 => ?_) (fun c4 => ?_)
      · have hw := hw.1 c3
        refine lv_iconst (v := 1) hx hb dX10_hasColour_26 (by decide) ?_
        refine lv_goto (tgt := 31) hx hb dX10_hasColour_27 (by decide) ?_
        refine lv_istore_n (lv' := [(1, .int (1 : Int32)), (0, .ref h_p0), (2, .int v2)]) hx hb dX10_hasColour_31 rfl hl (by decide) rfl (fun ls hl => ?_)
        obtain ⟨x5, ex5⟩ : ∃ y : Int32, y = v2 + (1 : Int32) := ⟨_, rfl⟩
        have hw := hw x5 ex5
        refine lv_iinc (v := x5) (lv' := [(2, .int x5), (1, .int (1 : Int32)), (0, .ref h_p0)]) hx hb dX10_hasColour_32 hl (k := 2) rfl (by rw [ex5]; rfl) (by decide) rfl (fun ls hl => ?_)
        refine lv_goto (tgt := 4) hx hb dX10_hasColour_35 (by decide) ?_
        exact ih _ _ hw _ _ _ hP hD hS (lv_sub hl [2, 1, 0] rfl)
      · have hw := hw.2 c4
        refine lv_aload_n hx hb dX10_hasColour_16 rfl (lv_at hl 0 rfl) ?_
        refine va_get (D := (dC, dI)) (ci := 10) (v := .ref (ad_p0 2)) (C := RX10) (T := TX10) (N := 50) hx hb hts iX10 hown hK hP 0 rfl rfl 2 (by decide) (hts (.fieldLink RX10 7 "NetHouseModel" "colour" "[I") (by decide +kernel)) (fun _ h9 => h9) rfl dX10_hasColour_17 ?_
        refine lv_iload_n hx hb dX10_hasColour_20 rfl (lv_at hl 2 rfl) ?_
        refine va_iald hx hb hK hP 1 0 rfl rfl hw.1 dX10_hasColour_21 ?_
        have hw := hw.2
        refine lv_iconst (v := 1) hx hb dX10_hasColour_22 (by decide) ?_
        refine lv_icmp_ne (tgt := 30) hx hb dX10_hasColour_23 (by decide) (fun c6 => ?_) (fun c7 => ?_)
        · have hw := hw.1 c6
          refine lv_iconst (v := 0) hx hb dX10_hasColour_30 (by decide) ?_
          refine lv_istore_n (lv' := [(1, .int (0 : Int32)), (0, .ref h_p0), (2, .int v2)]) hx hb dX10_hasColour_31 rfl hl (by decide) rfl (fun ls hl => ?_)
          obtain ⟨x8, ex8⟩ : ∃ y : Int32, y = v2 + (1 : Int32) := ⟨_, rfl⟩
          have hw := hw x8 ex8
          refine lv_iinc (v := x8) (lv' := [(2, .int x8), (1, .int (0 : Int32)), (0, .ref h_p0)]) hx hb dX10_hasColour_32 hl (k := 2) rfl (by rw [ex8]; rfl) (by decide) rfl (fun ls hl => ?_)
          refine lv_goto (tgt := 4) hx hb dX10_hasColour_35 (by decide) ?_
          exact ih _ _ hw _ _ _ hP hD hS (lv_sub hl [2, 1, 0] rfl)
        · have hw := hw.2 c7
          refine lv_iconst (v := 1) hx hb dX10_hasColour_26 (by decide) ?_
          refine lv_goto (tgt := 31) hx hb dX10_hasColour_27 (by decide) ?_
          refine lv_istore_n (lv' := [(1, .int (1 : Int32)), (0, .ref h_p0), (2, .int v2)]) hx hb dX10_hasColour_31 rfl hl (by decide) rfl (fun ls hl => ?_)
          obtain ⟨x9, ex9⟩ : ∃ y : Int32, y = v2 + (1 : Int32) := ⟨_, rfl⟩
          have hw := hw x9 ex9
          refine lv_iinc (v := x9) (lv' := [(2, .int x9), (1, .int (1 : Int32)), (0, .ref h_p0)]) hx hb dX10_hasColour_32 hl (k := 2) rfl (by rw [ex9]; rfl) (by decide) rfl (fun ls hl => ?_)
          refine lv_goto (tgt := 4) hx hb dX10_hasColour_35 (by decide) ?_
          exact ih _ _ hw _ _ _ hP hD hS (lv_sub hl [2, 1, 0] rfl)
set_option maxHeartbeats 4000000 in
set_option maxRecDepth 100000 in
theorem c_X10_hasColour {l : Launch} {dC : Nat → ClassId} {dI : Nat → Nat → Nat} {sz : Nat} {cI cJ cZ : ClassId} {h_p0 : Nat} {ad_p0 : Nat → Nat} {p0_places : Int32} {p0_steps : Int32} {p0_pastFirst : Int32} {p0_past : Int32} {p0_goings : Int32} {p0_rowSize : Int32} {p0_ways : Int32} {p0_hasField : Int32} {p0_fieldSize : Int32} {p0_faultNow : Int32} {p0_hasTree : Int32} {p0_treeSize : Int32} {p0_weightCount : Int32} {p0_roundCount : Int32} {p0_setCount : Int32} {p0_colour : Nat → Int32}  {post : Int32 → Prop} (hw : w_X10_hasColour p0_places p0_colour post) : Met l yX10_hasColour wsX10_hasColour ({ frames := 0, cells := 0, slots := 0, locals := 0 }) (va_Pc [.ref h_p0] (xPre (dC, dI) cI cJ cZ (wld_X10_hasColour cI cJ cZ h_p0 ad_p0 p0_places p0_steps p0_pastFirst p0_past p0_goings p0_rowSize p0_ways p0_hasField p0_fieldSize p0_faultNow p0_hasTree p0_treeSize p0_weightCount p0_roundCount p0_setCount p0_colour) sz)) (q_X10_hasColour dC dI cI cJ cZ h_p0 ad_p0 p0_places p0_steps p0_pastFirst p0_past p0_goings p0_rowSize p0_ways p0_hasField p0_fieldSize p0_faultNow p0_hasTree p0_treeSize p0_weightCount p0_roundCount p0_setCount p0_colour post (va_A (wld_X10_hasColour cI cJ cZ h_p0 ad_p0 p0_places p0_steps p0_pastFirst p0_past p0_goings p0_rowSize p0_ways p0_hasField p0_fieldSize p0_faultNow p0_hasTree p0_treeSize p0_weightCount p0_roundCount p0_setCount p0_colour) sz)) 0 0 (va_A (wld_X10_hasColour cI cJ cZ h_p0 ad_p0 p0_places p0_steps p0_pastFirst p0_past p0_goings p0_rowSize p0_ways p0_hasField p0_fieldSize p0_faultNow p0_hasTree p0_treeSize p0_weightCount p0_roundCount p0_setCount p0_colour) sz) := by
  refine x_met (cc := cX10_hasColour) (maxL := 3) (ret := (some .boolean)) (own := RX10) (Qc := fun A => (q_X10_hasColour dC dI cI cJ cZ h_p0 ad_p0 p0_places p0_steps p0_pastFirst p0_past p0_goings p0_rowSize p0_ways p0_hasField p0_fieldSize p0_faultNow p0_hasTree p0_treeSize p0_weightCount p0_roundCount p0_setCount p0_colour post A)) (by decide) rfl rfl (Nat.le_of_ble_eq_true rfl) ?_
  intro p e s m args below meth c A ls E0 hP hD hS hl
  obtain ⟨hx, hb, hr, hml, hown, hts, hlocks, hK, hA, n1, n2⟩ := id E0
  have iX10 : ∀ w ∈ u_ws RX10 TX10 50, w ∈ wsX10_hasColour := fun w h => List.mem_cons_of_mem _ (List.mem_append_right _ h)
  have hS0 := hS
  have hl : lv_has ls 3 [(0, .ref h_p0)] := hl
  unfold w_X10_hasColour at hw
  obtain ⟨H, hH⟩ : ∃ H, H = s.heap := ⟨_, rfl⟩
  have hS : va_S A s.heap H [] := by rw [hH]; exact hS
  have hP : va_P (dC, dI) vwCl (wld_X10_hasColour cI cJ cZ h_p0 ad_p0 p0_places p0_steps p0_pastFirst p0_past p0_goings p0_rowSize p0_ways p0_hasField p0_fieldSize p0_faultNow p0_hasTree p0_treeSize p0_weightCount p0_roundCount p0_setCount p0_colour) H := by rw [hH]; exact hP
  suffices hG : W p l e ({ frames := 0, cells := 0, slots := 0, locals := 0 }) s m args below meth c H [] 0 0 (MQ below (q_X10_hasColour dC dI cI cJ cZ h_p0 ad_p0 p0_places p0_steps p0_pastFirst p0_past p0_goings p0_rowSize p0_ways p0_hasField p0_fieldSize p0_faultNow p0_hasTree p0_treeSize p0_weightCount p0_roundCount p0_setCount p0_colour post A) args s 0 0 A) (F0 m 0 ls []) by rw [hH] at hG; exact hG
  clear hH
  refine lv_iconst (v := 0) hx hb dX10_hasColour_0 (by decide) ?_
  refine lv_istore_n (lv' := [(1, .int (0 : Int32)), (0, .ref h_p0)]) hx hb dX10_hasColour_1 rfl hl (by decide) rfl (fun ls hl => ?_)
  refine lv_iconst (v := 0) hx hb dX10_hasColour_2 (by decide) ?_
  refine lv_istore_n (lv' := [(2, .int (0 : Int32)), (1, .int (0 : Int32)), (0, .ref h_p0)]) hx hb dX10_hasColour_3 rfl hl (by decide) rfl (fun ls hl => ?_)
  obtain ⟨n10, hw⟩ := hw
  refine c_X10_hasColour_L4 (l := l)  E0 ?_ n10 _ _ hw _ _ _ hP hD hS (lv_sub hl [2, 1, 0] rfl)
  · intro v11 v12 H locs ls hw hP hD hS hl
    have hP : va_P (dC, dI) vwCl (wld_X10_hasColour cI cJ cZ h_p0 ad_p0 p0_places p0_steps p0_pastFirst p0_past p0_goings p0_rowSize p0_ways p0_hasField p0_fieldSize p0_faultNow p0_hasTree p0_treeSize p0_weightCount p0_roundCount p0_setCount p0_colour) H := hP
    have hD : va_D A (wld_X10_hasColour cI cJ cZ h_p0 ad_p0 p0_places p0_steps p0_pastFirst p0_past p0_goings p0_rowSize p0_ways p0_hasField p0_fieldSize p0_faultNow p0_hasTree p0_treeSize p0_weightCount p0_roundCount p0_setCount p0_colour) := hD
    refine lv_iload_n hx hb dX10_hasColour_38 rfl (lv_at hl 0 rfl) ?_
    have hv := hw.1
    have hw := hw.2
    exact x_zret (w1 := fun (u : Unit) => (wld_X10_hasColour cI cJ cZ h_p0 ad_p0 p0_places p0_steps p0_pastFirst p0_past p0_goings p0_rowSize p0_ways p0_hasField p0_fieldSize p0_faultNow p0_hasTree p0_treeSize p0_weightCount p0_roundCount p0_setCount p0_colour)) hx hb hr hlocks hv () hw hP hD hS dX10_hasColour_39
abbrev wld_X10_goes (cI cJ cZ : ClassId) (h_p0 : Nat) (h_p2 : Nat) (ad_p0 : Nat → Nat) (n_p2 : Nat) (p0_places : Int32) (p0_steps : Int32) (p0_pastFirst : Int32) (p0_past : Int32) (p0_goings : Int32) (p0_rowSize : Int32) (p0_ways : Int32) (p0_hasField : Int32) (p0_fieldSize : Int32) (p0_faultNow : Int32) (p0_hasTree : Int32) (p0_treeSize : Int32) (p0_weightCount : Int32) (p0_roundCount : Int32) (p0_setCount : Int32) (p0_closes : Nat → Int32) (p0_needs : Nat → Int32) (p0_sort : Nat → Int32) (p0_takes : Nat → Int32) (p2 : Nat → Int32) : va_W := [(h_p0, .inr (10, [.int p0_places, .int p0_steps, .ref (ad_p0 2), .ref (ad_p0 3), .ref (ad_p0 4), .ref (ad_p0 5), .ref (ad_p0 6), .ref (ad_p0 7), .ref (ad_p0 8), .ref (ad_p0 9), .ref (ad_p0 10), .ref (ad_p0 11), .ref (ad_p0 12), .ref (ad_p0 13), .ref (ad_p0 14), .int p0_pastFirst, .int p0_past, .int p0_goings, .int p0_rowSize, .ref (ad_p0 19), .ref (ad_p0 20), .int p0_ways, .ref (ad_p0 22), .ref (ad_p0 23), .int p0_hasField, .int p0_fieldSize, .ref (ad_p0 26), .ref (ad_p0 27), .ref (ad_p0 28), .ref (ad_p0 29), .ref (ad_p0 30), .ref (ad_p0 31), .ref (ad_p0 32), .int p0_faultNow, .int p0_hasTree, .int p0_treeSize, .ref (ad_p0 36), .ref (ad_p0 37), .ref (ad_p0 38), .ref (ad_p0 39), .ref (ad_p0 40), .ref (ad_p0 41), .ref (ad_p0 42), .int p0_weightCount, .ref (ad_p0 44), .int p0_roundCount, .ref (ad_p0 46), .int p0_setCount, .ref (ad_p0 48), .ref (ad_p0 49)])), ((ad_p0 7), .inl (cI, 256, .inl p0_closes)), ((ad_p0 6), .inl (cI, 256, .inl p0_needs)), ((ad_p0 3), .inl (cI, 16, .inl p0_sort)), ((ad_p0 4), .inl (cI, 256, .inl p0_takes)), (h_p2, .inl (cI, n_p2, .inl p2))]
abbrev q_X10_goes (dC : Nat → ClassId) (dI : Nat → Nat → Nat) (cI cJ cZ : ClassId) (h_p0 : Nat) (h_p2 : Nat) (ad_p0 : Nat → Nat) (n_p2 : Nat) (p0_places : Int32) (p0_steps : Int32) (p0_pastFirst : Int32) (p0_past : Int32) (p0_goings : Int32) (p0_rowSize : Int32) (p0_ways : Int32) (p0_hasField : Int32) (p0_fieldSize : Int32) (p0_faultNow : Int32) (p0_hasTree : Int32) (p0_treeSize : Int32) (p0_weightCount : Int32) (p0_roundCount : Int32) (p0_setCount : Int32) (p0_closes : Nat → Int32) (p0_needs : Nat → Int32) (p0_sort : Nat → Int32) (p0_takes : Nat → Int32) (p2 : Nat → Int32) (post : Int32 → Prop) (A : Nat → Prop) : Array Value → State → Outcome → State → Prop := va_Qi (fun r (u : Unit) => post r ) (fun (u : Unit) t => xPost (dC, dI) A (wld_X10_goes cI cJ cZ h_p0 h_p2 ad_p0 n_p2 p0_places p0_steps p0_pastFirst p0_past p0_goings p0_rowSize p0_ways p0_hasField p0_fieldSize p0_faultNow p0_hasTree p0_treeSize p0_weightCount p0_roundCount p0_setCount p0_closes p0_needs p0_sort p0_takes p2) t) A
def w_X10_goes_L18b (n_p2 : Nat) (v1 : Int32) (v3 : Int32) (p0_places : Int32) (p0_steps : Int32) (p0_closes : Nat → Int32) (p0_needs : Nat → Int32) (p0_sort : Nat → Int32) (p0_takes : Nat → Int32) (p2 : Nat → Int32) (post : Int32 → Prop) (K : (Int32) → (Int32) → Prop) (rec : (Int32) → (Int32) → Prop) (v4 : Int32) (v5 : Int32) : Prop :=
    (p0_steps ≤ v5 →
      K v4 v5) ∧
    (¬ p0_steps ≤ v5 →
      (¬ v4 = 0 →
        ∀ x8 : Int32, x8 = v5 + (1 : Int32) →
        rec (1 : Int32) x8) ∧
      (v4 = 0 →
        vp_in v5 16 ∧
        (¬ (p0_sort v5.toNatClampNeg) = (3 : Int32) →
          ∀ x11 : Int32, x11 = v5 + (1 : Int32) →
          rec (0 : Int32) x11) ∧
        ((p0_sort v5.toNatClampNeg) = (3 : Int32) →
          w_X10_mayIn n_p2 p0_places p0_closes p0_needs p0_takes p2 v5 v3 (fun r12 =>
          (r12 = 0 →
            ∀ x15 : Int32, x15 = v5 + (1 : Int32) →
            rec (0 : Int32) x15) ∧
          (¬ r12 = 0 →
            ∀ x16 : Int32, x16 = v5 + (1 : Int32) →
            rec (1 : Int32) x16)))))
def w_X10_goes_L18 (n_p2 : Nat) (v1 : Int32) (v3 : Int32) (p0_places : Int32) (p0_steps : Int32) (p0_closes : Nat → Int32) (p0_needs : Nat → Int32) (p0_sort : Nat → Int32) (p0_takes : Nat → Int32) (p2 : Nat → Int32) (post : Int32 → Prop) (K : (Int32) → (Int32) → Prop) : Nat → (Int32) → (Int32) → Prop
  | 0, _, _ => False
  | n + 1, v4, v5 => w_X10_goes_L18b n_p2 v1 v3 p0_places p0_steps p0_closes p0_needs p0_sort p0_takes p2 post K (w_X10_goes_L18 n_p2 v1 v3 p0_places p0_steps p0_closes p0_needs p0_sort p0_takes p2 post K n) v4 v5
def w_X10_goes (n_p2 : Nat) (p0_places : Int32) (p0_steps : Int32) (p0_closes : Nat → Int32) (p0_needs : Nat → Int32) (p0_sort : Nat → Int32) (p0_takes : Nat → Int32) (p2 : Nat → Int32) (a1 : Int32) (a3 : Int32) (post : Int32 → Prop) : Prop :=
  w_X10_mayIn n_p2 p0_places p0_closes p0_needs p0_takes p2 a1 a3 (fun r1 =>
  (¬ r1 = 0 →
    ∃ n : Nat, w_X10_goes_L18 n_p2 a1 a3 p0_places p0_steps p0_closes p0_needs p0_sort p0_takes p2 post (fun v18 v19 =>
        vp_in a1 16 ∧
        ((p0_sort a1.toNatClampNeg) = (3 : Int32) →
          (post (1 : Int32))) ∧
        (¬ (p0_sort a1.toNatClampNeg) = (3 : Int32) →
          (¬ v18 = 0 →
            (post (0 : Int32))) ∧
          (v18 = 0 →
            (post (1 : Int32))))) n (0 : Int32) (0 : Int32)) ∧
  (r1 = 0 →
    (post (0 : Int32))))
set_option maxHeartbeats 4000000 in
set_option maxRecDepth 100000 in
theorem c_X10_goes_L18 {p : Program} {l : Launch} {e : Env} {s : State} {m : MethodId} {args : Array Value} {below : List Frame} {meth : Method} {c : Code} {dC : Nat → ClassId} {dI : Nat → Nat → Nat} {A : Nat → Prop} {cI cJ cZ : ClassId} {h_p0 : Nat} {h_p2 : Nat} {ad_p0 : Nat → Nat} {n_p2 : Nat} {p0_places : Int32} {p0_steps : Int32} {p0_pastFirst : Int32} {p0_past : Int32} {p0_goings : Int32} {p0_rowSize : Int32} {p0_ways : Int32} {p0_hasField : Int32} {p0_fieldSize : Int32} {p0_faultNow : Int32} {p0_hasTree : Int32} {p0_treeSize : Int32} {p0_weightCount : Int32} {p0_roundCount : Int32} {p0_setCount : Int32} {p0_closes : Nat → Int32} {p0_needs : Nat → Int32} {p0_sort : Nat → Int32} {p0_takes : Nat → Int32} {p2 : Nat → Int32} {v1 : Int32} {v3 : Int32}  {post : Int32 → Prop} {K : (Int32) → (Int32) → Prop} (E0 : xEnv p s m args meth c cX10_goes (some .boolean) 6 RX10 wsX10_goes (dC, dI) cI cJ cZ A) (hk : ∀ (v4 : Int32) (v5 : Int32) (H : Heap) (locs : List Loc) (ls : Array Slot), K v4 v5 → va_P (dC, dI) vwCl (wld_X10_goes cI cJ cZ h_p0 h_p2 ad_p0 n_p2 p0_places p0_steps p0_pastFirst p0_past p0_goings p0_rowSize p0_ways p0_hasField p0_fieldSize p0_faultNow p0_hasTree p0_treeSize p0_weightCount p0_roundCount p0_setCount p0_closes p0_needs p0_sort p0_takes p2) H → va_D A (wld_X10_goes cI cJ cZ h_p0 h_p2 ad_p0 n_p2 p0_places p0_steps p0_pastFirst p0_past p0_goings p0_rowSize p0_ways p0_hasField p0_fieldSize p0_faultNow p0_hasTree p0_treeSize p0_weightCount p0_roundCount p0_setCount p0_closes p0_needs p0_sort p0_takes p2) → va_S A s.heap H locs → lv_has ls 6 [(0, .ref h_p0), (1, .int v1), (4, .int v4)] → W p l e ({ frames := 2, cells := 0, slots := 0, locals := 51 }) s m args below meth c H locs 0 0 (MQ below (q_X10_goes dC dI cI cJ cZ h_p0 h_p2 ad_p0 n_p2 p0_places p0_steps p0_pastFirst p0_past p0_goings p0_rowSize p0_ways p0_hasField p0_fieldSize p0_faultNow p0_hasTree p0_treeSize p0_weightCount p0_roundCount p0_setCount p0_closes p0_needs p0_sort p0_takes p2 post A) args s 0 0 A) (F0 m 67 ls [])) : ∀ (n : Nat) (v4 : Int32) (v5 : Int32), w_X10_goes_L18 n_p2 v1 v3 p0_places p0_steps p0_closes p0_needs p0_sort p0_takes p2 post K n v4 v5 → ∀ (H : Heap) (locs : List Loc) (ls : Array Slot), va_P (dC, dI) vwCl (wld_X10_goes cI cJ cZ h_p0 h_p2 ad_p0 n_p2 p0_places p0_steps p0_pastFirst p0_past p0_goings p0_rowSize p0_ways p0_hasField p0_fieldSize p0_faultNow p0_hasTree p0_treeSize p0_weightCount p0_roundCount p0_setCount p0_closes p0_needs p0_sort p0_takes p2) H → va_D A (wld_X10_goes cI cJ cZ h_p0 h_p2 ad_p0 n_p2 p0_places p0_steps p0_pastFirst p0_past p0_goings p0_rowSize p0_ways p0_hasField p0_fieldSize p0_faultNow p0_hasTree p0_treeSize p0_weightCount p0_roundCount p0_setCount p0_closes p0_needs p0_sort p0_takes p2) → va_S A s.heap H locs → lv_has ls 6 [(0, .ref h_p0), (1, .int v1), (2, .ref h_p2), (3, .int v3), (4, .int v4), (5, .int v5)] → W p l e ({ frames := 2, cells := 0, slots := 0, locals := 51 }) s m args below meth c H locs 0 0 (MQ below (q_X10_goes dC dI cI cJ cZ h_p0 h_p2 ad_p0 n_p2 p0_places p0_steps p0_pastFirst p0_past p0_goings p0_rowSize p0_ways p0_hasField p0_fieldSize p0_faultNow p0_hasTree p0_treeSize p0_weightCount p0_roundCount p0_setCount p0_closes p0_needs p0_sort p0_takes p2 post A) args s 0 0 A) (F0 m 18 ls []) := by
  obtain ⟨hx, hb, hr, hml, hown, hts, hlocks, hK, hA, n1, n2⟩ := id E0
  have iX10 : ∀ w ∈ u_ws RX10 TX10 50, w ∈ wsX10_goes := fun w h => List.mem_cons_of_mem _ (List.mem_append_right _ h)
  intro n
  induction n with
  | zero => intro v4 v5 hw; exact hw.elim
  | succ n ih =>
    intro v4 v5 hw H locs ls hP hD hS hl
    have hw : w_X10_goes_L18b n_p2 v1 v3 p0_places p0_steps p0_closes p0_needs p0_sort p0_takes p2 post K (w_X10_goes_L18 n_p2 v1 v3 p0_places p0_steps p0_closes p0_needs p0_sort p0_takes p2 post K n) v4 v5 := hw
    unfold w_X10_goes_L18b at hw
    refine lv_iload hx hb dX10_goes_18 (lv_at hl 5 rfl) ?_
    refine lv_aload_n hx hb dX10_goes_20 rfl (lv_at hl 0 rfl) ?_
    refine va_get (D := (dC, dI)) (ci := 10) (v := .int p0_steps) (C := RX10) (T := TX10) (N := 50) hx hb hts iX10 hown hK hP 0 rfl rfl 1 (by decide) (hts (.fieldLink RX10 130 "NetHouseModel" "steps" "I") (by decide +kernel)) (fun _ h9 => h9) rfl dX10_goes_21 ?_
    refine lv_icmp_ge (tgt := 67) hx hb dX10_goes_24 (by decide) (fun c4 => ?_) (fun c5 => ?_)
    · have hw := hw.1 c4
      exact hk _ _ _ _ _ hw hP hD hS (lv_sub hl [0, 1, 4] rfl)
    · have hw := hw.2 c5
      refine lv_iload hx hb dX10_goes_27 (lv_at hl 4 rfl) ?_
      refine lv_if_ne (tgt := 54) hx hb dX10_goes_29 (by decide) (fun c6 => ?_) (fun c7 => ?_)
      · have hw := hw.1 c6
        refine lv_iconst (v := 1) hx hb dX10_goes_54 (by decide) ?_
        refine lv_goto (tgt := 59) hx hb dX10_goes_55 (by decide) ?_
        refine lv_istore (lv' := [(4, .int (1 : Int32)), (0, .ref h_p0), (1, .int v1), (2, .ref h_p2), (3, .int v3), (5, .int v5)]) hx hb dX10_goes_59 hl (by decide) rfl (fun ls hl => ?_)
        obtain ⟨x8, ex8⟩ : ∃ y : Int32, y = v5 + (1 : Int32) := ⟨_, rfl⟩
        have hw := hw x8 ex8
        refine lv_iinc (v := x8) (lv' := [(5, .int x8), (4, .int (1 : Int32)), (0, .ref h_p0), (1, .int v1), (2, .ref h_p2), (3, .int v3)]) hx hb dX10_goes_61 hl (k := 5) rfl (by rw [ex8]; rfl) (by decide) rfl (fun ls hl => ?_)
        refine lv_goto (tgt := 18) hx hb dX10_goes_64 (by decide) ?_
        exact ih _ _ hw _ _ _ hP hD hS (lv_sub hl [2, 3, 4, 5, 1, 0] rfl)
      · have hw := hw.2 c7
        refine lv_aload_n hx hb dX10_goes_32 rfl (lv_at hl 0 rfl) ?_
        refine va_get (D := (dC, dI)) (ci := 10) (v := .ref (ad_p0 3)) (C := RX10) (T := TX10) (N := 50) hx hb hts iX10 hown hK hP 0 rfl rfl 3 (by decide) (hts (.fieldLink RX10 13 "NetHouseModel" "sort" "[I") (by decide +kernel)) (fun _ h9 => h9) rfl dX10_goes_33 ?_
        refine lv_iload hx hb dX10_goes_36 (lv_at hl 5 rfl) ?_
        refine va_iald hx hb hK hP 3 0 rfl rfl hw.1 dX10_goes_38 ?_
        have hw := hw.2
        refine lv_iconst (v := 3) hx hb dX10_goes_39 (by decide) ?_
        refine lv_icmp_ne (tgt := 58) hx hb dX10_goes_40 (by decide) (fun c9 => ?_) (fun c10 => ?_)
        · have hw := hw.1 c9
          refine lv_iconst (v := 0) hx hb dX10_goes_58 (by decide) ?_
          refine lv_istore (lv' := [(4, .int (0 : Int32)), (0, .ref h_p0), (1, .int v1), (2, .ref h_p2), (3, .int v3), (5, .int v5)]) hx hb dX10_goes_59 hl (by decide) rfl (fun ls hl => ?_)
          obtain ⟨x11, ex11⟩ : ∃ y : Int32, y = v5 + (1 : Int32) := ⟨_, rfl⟩
          have hw := hw x11 ex11
          refine lv_iinc (v := x11) (lv' := [(5, .int x11), (4, .int (0 : Int32)), (0, .ref h_p0), (1, .int v1), (2, .ref h_p2), (3, .int v3)]) hx hb dX10_goes_61 hl (k := 5) rfl (by rw [ex11]; rfl) (by decide) rfl (fun ls hl => ?_)
          refine lv_goto (tgt := 18) hx hb dX10_goes_64 (by decide) ?_
          exact ih _ _ hw _ _ _ hP hD hS (lv_sub hl [2, 3, 4, 5, 1, 0] rfl)
        · have hw := hw.2 c10
          refine lv_aload_n hx hb dX10_goes_43 rfl (lv_at hl 0 rfl) ?_
          refine lv_iload hx hb dX10_goes_44 (lv_at hl 5 rfl) ?_
          refine lv_aload_n hx hb dX10_goes_46 rfl (lv_at hl 2 rfl) ?_
          refine lv_iload_n hx hb dX10_goes_47 rfl (lv_at hl 3 rfl) ?_
          obtain ⟨hPc, hDc⟩ := x_sub (wc := (wld_X10_mayIn cI cJ cZ h_p0 h_p2 ad_p0 n_p2 p0_places p0_steps p0_pastFirst p0_past p0_goings p0_rowSize p0_ways p0_hasField p0_fieldSize p0_faultNow p0_hasTree p0_treeSize p0_weightCount p0_roundCount p0_setCount p0_closes p0_needs p0_takes p2)) hP hD [0, 1, 2, 4, 5] (n := 6) rfl rfl (by decide +kernel)
          refine x_calli (ws' := fun (u : Unit) => (wld_X10_goes cI cJ cZ h_p0 h_p2 ad_p0 n_p2 p0_places p0_steps p0_pastFirst p0_past p0_goings p0_rowSize p0_ways p0_hasField p0_fieldSize p0_faultNow p0_hasTree p0_treeSize p0_weightCount p0_roundCount p0_setCount p0_closes p0_needs p0_sort p0_takes p2)) hP hD hS hA [0, 1, 2, 4, 5] [3] [1, 2, 3, 0, 4, 5] (n := 6) (k := 5) rfl (fun _ => rfl) rfl (by decide +kernel) (fun _ => rfl) (va_runV (As := [.int v5, .ref h_p2, .int v3]) (rest := []) ⟨hx, hb, hml, hown, hts⟩ (c_X10_mayIn (l := l) (dC := dC) (dI := dI) (cI := cI) (cJ := cJ) (cZ := cZ) (sz := H.size) (h_p0 := h_p0) (h_p2 := h_p2) (ad_p0 := ad_p0) (n_p2 := n_p2) (p0_places := p0_places) (p0_steps := p0_steps) (p0_pastFirst := p0_pastFirst) (p0_past := p0_past) (p0_goings := p0_goings) (p0_rowSize := p0_rowSize) (p0_ways := p0_ways) (p0_hasField := p0_hasField) (p0_fieldSize := p0_fieldSize) (p0_faultNow := p0_faultNow) (p0_hasTree := p0_hasTree) (p0_treeSize := p0_treeSize) (p0_weightCount := p0_weightCount) (p0_roundCount := p0_roundCount) (p0_setCount := p0_setCount) (p0_closes := p0_closes) (p0_needs := p0_needs) (p0_takes := p0_takes) (p2 := p2) hw) (cwV 3 hts gX10_goes_X10_mayIn rfl rfl rfl (by decide +kernel) ⟨Nat.le_of_ble_eq_true rfl, Nat.le_of_ble_eq_true rfl⟩) ⟨xPre_blind, va_recv hK hP (ci := 10) (q0 := 0) rfl rfl, xPre_at hK hPc hDc n1 n2⟩ rfl rfl hl.1 rfl (lv_room (Nat.le_of_ble_eq_true rfl)) dX10_goes_48 ⟨Nat.zero_le _, Nat.zero_le _⟩) (fun r12 u H locs hw hP hD hS => ?_)
          try dsimp only at hw
          have hP : va_P (dC, dI) vwCl (wld_X10_goes cI cJ cZ h_p0 h_p2 ad_p0 n_p2 p0_places p0_steps p0_pastFirst p0_past p0_goings p0_rowSize p0_ways p0_hasField p0_fieldSize p0_faultNow p0_hasTree p0_treeSize p0_weightCount p0_roundCount p0_setCount p0_closes p0_needs p0_sort p0_takes p2) H := hP
          have hD : va_D A (wld_X10_goes cI cJ cZ h_p0 h_p2 ad_p0 n_p2 p0_places p0_steps p0_pastFirst p0_past p0_goings p0_rowSize p0_ways p0_hasField p0_fieldSize p0_faultNow p0_hasTree p0_treeSize p0_weightCount p0_roundCount p0_setCount p0_closes p0_needs p0_sort p0_takes p2) := hD
          refine lv_if_eq (tgt := 58) hx hb dX10_goes_51 (by decide) (fun c13 => ?_) (fun c14 => ?_)
          · have hw := hw.1 c13
            refine lv_iconst (v := 0) hx hb dX10_goes_58 (by decide) ?_
            refine lv_istore (lv' := [(4, .int (0 : Int32)), (0, .ref h_p0), (1, .int v1), (2, .ref h_p2), (3, .int v3), (5, .int v5)]) hx hb dX10_goes_59 hl (by decide) rfl (fun ls hl => ?_)
            obtain ⟨x15, ex15⟩ : ∃ y : Int32, y = v5 + (1 : Int32) := ⟨_, rfl⟩
            have hw := hw x15 ex15
            refine lv_iinc (v := x15) (lv' := [(5, .int x15), (4, .int (0 : Int32)), (0, .ref h_p0), (1, .int v1), (2, .ref h_p2), (3, .int v3)]) hx hb dX10_goes_61 hl (k := 5) rfl (by rw [ex15]; rfl) (by decide) rfl (fun ls hl => ?_)
            refine lv_goto (tgt := 18) hx hb dX10_goes_64 (by decide) ?_
            exact ih _ _ hw _ _ _ hP hD hS (lv_sub hl [2, 3, 4, 5, 1, 0] rfl)
          · have hw := hw.2 c14
            refine lv_iconst (v := 1) hx hb dX10_goes_54 (by decide) ?_
            refine lv_goto (tgt := 59) hx hb dX10_goes_55 (by decide) ?_
            refine lv_istore (lv' := [(4, .int (1 : Int32)), (0, .ref h_p0), (1, .int v1), (2, .ref h_p2), (3, .int v3), (5, .int v5)]) hx hb dX10_goes_59 hl (by decide) rfl (fun ls hl => ?_)
            obtain ⟨x16, ex16⟩ : ∃ y : Int32, y = v5 + (1 : Int32) := ⟨_, rfl⟩
            have hw := hw x16 ex16
            refine lv_iinc (v := x16) (lv' := [(5, .int x16), (4, .int (1 : Int32)), (0, .ref h_p0), (1, .int v1), (2, .ref h_p2), (3, .int v3)]) hx hb dX10_goes_61 hl (k := 5) rfl (by rw [ex16]; rfl) (by decide) rfl (fun ls hl => ?_)
            refine lv_goto (tgt := 18) hx hb dX10_goes_64 (by decide) ?_
            exact ih _ _ hw _ _ _ hP hD hS (lv_sub hl [2, 3, 4, 5, 1, 0] rfl)
set_option maxHeartbeats 4000000 in
set_option maxRecDepth 100000 in
theorem c_X10_goes {l : Launch} {dC : Nat → ClassId} {dI : Nat → Nat → Nat} {sz : Nat} {cI cJ cZ : ClassId} {h_p0 : Nat} {h_p2 : Nat} {ad_p0 : Nat → Nat} {n_p2 : Nat} {p0_places : Int32} {p0_steps : Int32} {p0_pastFirst : Int32} {p0_past : Int32} {p0_goings : Int32} {p0_rowSize : Int32} {p0_ways : Int32} {p0_hasField : Int32} {p0_fieldSize : Int32} {p0_faultNow : Int32} {p0_hasTree : Int32} {p0_treeSize : Int32} {p0_weightCount : Int32} {p0_roundCount : Int32} {p0_setCount : Int32} {p0_closes : Nat → Int32} {p0_needs : Nat → Int32} {p0_sort : Nat → Int32} {p0_takes : Nat → Int32} {p2 : Nat → Int32} {a1 : Int32} {a3 : Int32} {post : Int32 → Prop} (hw : w_X10_goes n_p2 p0_places p0_steps p0_closes p0_needs p0_sort p0_takes p2 a1 a3 post) : Met l yX10_goes wsX10_goes ({ frames := 2, cells := 0, slots := 0, locals := 51 }) (va_Pc [.ref h_p0, .int a1, .ref h_p2, .int a3] (xPre (dC, dI) cI cJ cZ (wld_X10_goes cI cJ cZ h_p0 h_p2 ad_p0 n_p2 p0_places p0_steps p0_pastFirst p0_past p0_goings p0_rowSize p0_ways p0_hasField p0_fieldSize p0_faultNow p0_hasTree p0_treeSize p0_weightCount p0_roundCount p0_setCount p0_closes p0_needs p0_sort p0_takes p2) sz)) (q_X10_goes dC dI cI cJ cZ h_p0 h_p2 ad_p0 n_p2 p0_places p0_steps p0_pastFirst p0_past p0_goings p0_rowSize p0_ways p0_hasField p0_fieldSize p0_faultNow p0_hasTree p0_treeSize p0_weightCount p0_roundCount p0_setCount p0_closes p0_needs p0_sort p0_takes p2 post (va_A (wld_X10_goes cI cJ cZ h_p0 h_p2 ad_p0 n_p2 p0_places p0_steps p0_pastFirst p0_past p0_goings p0_rowSize p0_ways p0_hasField p0_fieldSize p0_faultNow p0_hasTree p0_treeSize p0_weightCount p0_roundCount p0_setCount p0_closes p0_needs p0_sort p0_takes p2) sz)) 0 0 (va_A (wld_X10_goes cI cJ cZ h_p0 h_p2 ad_p0 n_p2 p0_places p0_steps p0_pastFirst p0_past p0_goings p0_rowSize p0_ways p0_hasField p0_fieldSize p0_faultNow p0_hasTree p0_treeSize p0_weightCount p0_roundCount p0_setCount p0_closes p0_needs p0_sort p0_takes p2) sz) := by
  refine x_met (cc := cX10_goes) (maxL := 6) (ret := (some .boolean)) (own := RX10) (Qc := fun A => (q_X10_goes dC dI cI cJ cZ h_p0 h_p2 ad_p0 n_p2 p0_places p0_steps p0_pastFirst p0_past p0_goings p0_rowSize p0_ways p0_hasField p0_fieldSize p0_faultNow p0_hasTree p0_treeSize p0_weightCount p0_roundCount p0_setCount p0_closes p0_needs p0_sort p0_takes p2 post A)) (by decide) rfl rfl (Nat.le_of_ble_eq_true rfl) ?_
  intro p e s m args below meth c A ls E0 hP hD hS hl
  obtain ⟨hx, hb, hr, hml, hown, hts, hlocks, hK, hA, n1, n2⟩ := id E0
  have iX10 : ∀ w ∈ u_ws RX10 TX10 50, w ∈ wsX10_goes := fun w h => List.mem_cons_of_mem _ (List.mem_append_right _ h)
  have hS0 := hS
  have hl : lv_has ls 6 [(0, .ref h_p0), (1, .int a1), (2, .ref h_p2), (3, .int a3)] := hl
  unfold w_X10_goes at hw
  obtain ⟨H, hH⟩ : ∃ H, H = s.heap := ⟨_, rfl⟩
  have hS : va_S A s.heap H [] := by rw [hH]; exact hS
  have hP : va_P (dC, dI) vwCl (wld_X10_goes cI cJ cZ h_p0 h_p2 ad_p0 n_p2 p0_places p0_steps p0_pastFirst p0_past p0_goings p0_rowSize p0_ways p0_hasField p0_fieldSize p0_faultNow p0_hasTree p0_treeSize p0_weightCount p0_roundCount p0_setCount p0_closes p0_needs p0_sort p0_takes p2) H := by rw [hH]; exact hP
  suffices hG : W p l e ({ frames := 2, cells := 0, slots := 0, locals := 51 }) s m args below meth c H [] 0 0 (MQ below (q_X10_goes dC dI cI cJ cZ h_p0 h_p2 ad_p0 n_p2 p0_places p0_steps p0_pastFirst p0_past p0_goings p0_rowSize p0_ways p0_hasField p0_fieldSize p0_faultNow p0_hasTree p0_treeSize p0_weightCount p0_roundCount p0_setCount p0_closes p0_needs p0_sort p0_takes p2 post A) args s 0 0 A) (F0 m 0 ls []) by rw [hH] at hG; exact hG
  clear hH
  refine lv_aload_n hx hb dX10_goes_0 rfl (lv_at hl 0 rfl) ?_
  refine lv_iload_n hx hb dX10_goes_1 rfl (lv_at hl 1 rfl) ?_
  refine lv_aload_n hx hb dX10_goes_2 rfl (lv_at hl 2 rfl) ?_
  refine lv_iload_n hx hb dX10_goes_3 rfl (lv_at hl 3 rfl) ?_
  obtain ⟨hPc, hDc⟩ := x_sub (wc := (wld_X10_mayIn cI cJ cZ h_p0 h_p2 ad_p0 n_p2 p0_places p0_steps p0_pastFirst p0_past p0_goings p0_rowSize p0_ways p0_hasField p0_fieldSize p0_faultNow p0_hasTree p0_treeSize p0_weightCount p0_roundCount p0_setCount p0_closes p0_needs p0_takes p2)) hP hD [0, 1, 2, 4, 5] (n := 6) rfl rfl (by decide +kernel)
  refine x_calli (ws' := fun (u : Unit) => (wld_X10_goes cI cJ cZ h_p0 h_p2 ad_p0 n_p2 p0_places p0_steps p0_pastFirst p0_past p0_goings p0_rowSize p0_ways p0_hasField p0_fieldSize p0_faultNow p0_hasTree p0_treeSize p0_weightCount p0_roundCount p0_setCount p0_closes p0_needs p0_sort p0_takes p2)) hP hD hS hA [0, 1, 2, 4, 5] [3] [1, 2, 3, 0, 4, 5] (n := 6) (k := 5) rfl (fun _ => rfl) rfl (by decide +kernel) (fun _ => rfl) (va_runV (As := [.int a1, .ref h_p2, .int a3]) (rest := []) ⟨hx, hb, hml, hown, hts⟩ (c_X10_mayIn (l := l) (dC := dC) (dI := dI) (cI := cI) (cJ := cJ) (cZ := cZ) (sz := H.size) (h_p0 := h_p0) (h_p2 := h_p2) (ad_p0 := ad_p0) (n_p2 := n_p2) (p0_places := p0_places) (p0_steps := p0_steps) (p0_pastFirst := p0_pastFirst) (p0_past := p0_past) (p0_goings := p0_goings) (p0_rowSize := p0_rowSize) (p0_ways := p0_ways) (p0_hasField := p0_hasField) (p0_fieldSize := p0_fieldSize) (p0_faultNow := p0_faultNow) (p0_hasTree := p0_hasTree) (p0_treeSize := p0_treeSize) (p0_weightCount := p0_weightCount) (p0_roundCount := p0_roundCount) (p0_setCount := p0_setCount) (p0_closes := p0_closes) (p0_needs := p0_needs) (p0_takes := p0_takes) (p2 := p2) hw) (cwV 3 hts gX10_goes_X10_mayIn rfl rfl rfl (by decide +kernel) ⟨Nat.le_of_ble_eq_true rfl, Nat.le_of_ble_eq_true rfl⟩) ⟨xPre_blind, va_recv hK hP (ci := 10) (q0 := 0) rfl rfl, xPre_at hK hPc hDc n1 n2⟩ rfl rfl hl.1 rfl (lv_room (Nat.le_of_ble_eq_true rfl)) dX10_goes_4 ⟨Nat.zero_le _, Nat.zero_le _⟩) (fun r1 u H locs hw hP hD hS => ?_)
  try dsimp only at hw
  have hP : va_P (dC, dI) vwCl (wld_X10_goes cI cJ cZ h_p0 h_p2 ad_p0 n_p2 p0_places p0_steps p0_pastFirst p0_past p0_goings p0_rowSize p0_ways p0_hasField p0_fieldSize p0_faultNow p0_hasTree p0_treeSize p0_weightCount p0_roundCount p0_setCount p0_closes p0_needs p0_sort p0_takes p2) H := hP
  have hD : va_D A (wld_X10_goes cI cJ cZ h_p0 h_p2 ad_p0 n_p2 p0_places p0_steps p0_pastFirst p0_past p0_goings p0_rowSize p0_ways p0_hasField p0_fieldSize p0_faultNow p0_hasTree p0_treeSize p0_weightCount p0_roundCount p0_setCount p0_closes p0_needs p0_sort p0_takes p2) := hD
  refine lv_if_ne (tgt := 12) hx hb dX10_goes_7 (by decide) (fun c2 => ?_) (fun c3 => ?_)
  · have hw := hw.1 c2
    refine lv_iconst (v := 0) hx hb dX10_goes_12 (by decide) ?_
    refine lv_istore (lv' := [(4, .int (0 : Int32)), (0, .ref h_p0), (1, .int a1), (2, .ref h_p2), (3, .int a3)]) hx hb dX10_goes_13 hl (by decide) rfl (fun ls hl => ?_)
    refine lv_iconst (v := 0) hx hb dX10_goes_15 (by decide) ?_
    refine lv_istore (lv' := [(5, .int (0 : Int32)), (4, .int (0 : Int32)), (0, .ref h_p0), (1, .int a1), (2, .ref h_p2), (3, .int a3)]) hx hb dX10_goes_16 hl (by decide) rfl (fun ls hl => ?_)
    obtain ⟨n17, hw⟩ := hw
    refine c_X10_goes_L18 (l := l)  E0 ?_ n17 _ _ hw _ _ _ hP hD hS (lv_sub hl [2, 3, 4, 5, 1, 0] rfl)
    · intro v18 v19 H locs ls hw hP hD hS hl
      have hP : va_P (dC, dI) vwCl (wld_X10_goes cI cJ cZ h_p0 h_p2 ad_p0 n_p2 p0_places p0_steps p0_pastFirst p0_past p0_goings p0_rowSize p0_ways p0_hasField p0_fieldSize p0_faultNow p0_hasTree p0_treeSize p0_weightCount p0_roundCount p0_setCount p0_closes p0_needs p0_sort p0_takes p2) H := hP
      have hD : va_D A (wld_X10_goes cI cJ cZ h_p0 h_p2 ad_p0 n_p2 p0_places p0_steps p0_pastFirst p0_past p0_goings p0_rowSize p0_ways p0_hasField p0_fieldSize p0_faultNow p0_hasTree p0_treeSize p0_weightCount p0_roundCount p0_setCount p0_closes p0_needs p0_sort p0_takes p2) := hD
      refine lv_aload_n hx hb dX10_goes_67 rfl (lv_at hl 0 rfl) ?_
      refine va_get (D := (dC, dI)) (ci := 10) (v := .ref (ad_p0 3)) (C := RX10) (T := TX10) (N := 50) hx hb hts iX10 hown hK hP 0 rfl rfl 3 (by decide) (hts (.fieldLink RX10 13 "NetHouseModel" "sort" "[I") (by decide +kernel)) (fun _ h9 => h9) rfl dX10_goes_68 ?_
      refine lv_iload_n hx hb dX10_goes_71 rfl (lv_at hl 1 rfl) ?_
      refine va_iald hx hb hK hP 3 0 rfl rfl hw.1 dX10_goes_72 ?_
      have hw := hw.2
      refine lv_iconst (v := 3) hx hb dX10_goes_73 (by decide) ?_
      refine lv_icmp_eq (tgt := 82) hx hb dX10_goes_74 (by decide) (fun c20 => ?_) (fun c21 => ?_)
      · have hw := hw.1 c20
        refine lv_iconst (v := 1) hx hb dX10_goes_82 (by decide) ?_
        refine lv_goto (tgt := 87) hx hb dX10_goes_83 (by decide) ?_
        exact x_zret (w1 := fun (u : Unit) => (wld_X10_goes cI cJ cZ h_p0 h_p2 ad_p0 n_p2 p0_places p0_steps p0_pastFirst p0_past p0_goings p0_rowSize p0_ways p0_hasField p0_fieldSize p0_faultNow p0_hasTree p0_treeSize p0_weightCount p0_roundCount p0_setCount p0_closes p0_needs p0_sort p0_takes p2)) hx hb hr hlocks (by decide) () hw hP hD hS dX10_goes_87
      · have hw := hw.2 c21
        refine lv_iload hx hb dX10_goes_77 (lv_at hl 2 rfl) ?_
        refine lv_if_ne (tgt := 86) hx hb dX10_goes_79 (by decide) (fun c22 => ?_) (fun c23 => ?_)
        · have hw := hw.1 c22
          refine lv_iconst (v := 0) hx hb dX10_goes_86 (by decide) ?_
          exact x_zret (w1 := fun (u : Unit) => (wld_X10_goes cI cJ cZ h_p0 h_p2 ad_p0 n_p2 p0_places p0_steps p0_pastFirst p0_past p0_goings p0_rowSize p0_ways p0_hasField p0_fieldSize p0_faultNow p0_hasTree p0_treeSize p0_weightCount p0_roundCount p0_setCount p0_closes p0_needs p0_sort p0_takes p2)) hx hb hr hlocks (by decide) () hw hP hD hS dX10_goes_87
        · have hw := hw.2 c23
          refine lv_iconst (v := 1) hx hb dX10_goes_82 (by decide) ?_
          refine lv_goto (tgt := 87) hx hb dX10_goes_83 (by decide) ?_
          exact x_zret (w1 := fun (u : Unit) => (wld_X10_goes cI cJ cZ h_p0 h_p2 ad_p0 n_p2 p0_places p0_steps p0_pastFirst p0_past p0_goings p0_rowSize p0_ways p0_hasField p0_fieldSize p0_faultNow p0_hasTree p0_treeSize p0_weightCount p0_roundCount p0_setCount p0_closes p0_needs p0_sort p0_takes p2)) hx hb hr hlocks (by decide) () hw hP hD hS dX10_goes_87
  · have hw := hw.2 c3
    refine lv_iconst (v := 0) hx hb dX10_goes_10 (by decide) ?_
    exact x_zret (w1 := fun (u : Unit) => (wld_X10_goes cI cJ cZ h_p0 h_p2 ad_p0 n_p2 p0_places p0_steps p0_pastFirst p0_past p0_goings p0_rowSize p0_ways p0_hasField p0_fieldSize p0_faultNow p0_hasTree p0_treeSize p0_weightCount p0_roundCount p0_setCount p0_closes p0_needs p0_sort p0_takes p2)) hx hb hr hlocks (by decide) () hw hP hD hS dX10_goes_11
abbrev wld_X10_check (cI cJ cZ : ClassId) (h_p0 : Nat) (ad_p0 : Nat → Nat) (p0_places : Int32) (p0_steps : Int32) (p0_pastFirst : Int32) (p0_past : Int32) (p0_goings : Int32) (p0_rowSize : Int32) (p0_ways : Int32) (p0_hasField : Int32) (p0_fieldSize : Int32) (p0_faultNow : Int32) (p0_hasTree : Int32) (p0_treeSize : Int32) (p0_weightCount : Int32) (p0_roundCount : Int32) (p0_setCount : Int32) (p0_closes : Nat → Int32) (p0_colour : Nat → Int32) (p0_has : Nat → Int32) (p0_needs : Nat → Int32) (p0_now : Nat → Int32) (p0_puts : Nat → Int32) (p0_sort : Nat → Int32) (p0_takes : Nat → Int32) (p0_way : Nat → Int32) : va_W := [(h_p0, .inr (10, [.int p0_places, .int p0_steps, .ref (ad_p0 2), .ref (ad_p0 3), .ref (ad_p0 4), .ref (ad_p0 5), .ref (ad_p0 6), .ref (ad_p0 7), .ref (ad_p0 8), .ref (ad_p0 9), .ref (ad_p0 10), .ref (ad_p0 11), .ref (ad_p0 12), .ref (ad_p0 13), .ref (ad_p0 14), .int p0_pastFirst, .int p0_past, .int p0_goings, .int p0_rowSize, .ref (ad_p0 19), .ref (ad_p0 20), .int p0_ways, .ref (ad_p0 22), .ref (ad_p0 23), .int p0_hasField, .int p0_fieldSize, .ref (ad_p0 26), .ref (ad_p0 27), .ref (ad_p0 28), .ref (ad_p0 29), .ref (ad_p0 30), .ref (ad_p0 31), .ref (ad_p0 32), .int p0_faultNow, .int p0_hasTree, .int p0_treeSize, .ref (ad_p0 36), .ref (ad_p0 37), .ref (ad_p0 38), .ref (ad_p0 39), .ref (ad_p0 40), .ref (ad_p0 41), .ref (ad_p0 42), .int p0_weightCount, .ref (ad_p0 44), .int p0_roundCount, .ref (ad_p0 46), .int p0_setCount, .ref (ad_p0 48), .ref (ad_p0 49)])), ((ad_p0 7), .inl (cI, 256, .inl p0_closes)), ((ad_p0 2), .inl (cI, 16, .inl p0_colour)), ((ad_p0 10), .inl (cI, 16, .inl p0_has)), ((ad_p0 6), .inl (cI, 256, .inl p0_needs)), ((ad_p0 23), .inl (cI, 16, .inl p0_now)), ((ad_p0 5), .inl (cI, 256, .inl p0_puts)), ((ad_p0 3), .inl (cI, 16, .inl p0_sort)), ((ad_p0 4), .inl (cI, 256, .inl p0_takes)), ((ad_p0 22), .inl (cI, 8000, .inl p0_way))]
abbrev q_X10_check (dC : Nat → ClassId) (dI : Nat → Nat → Nat) (cI cJ cZ : ClassId) (h_p0 : Nat) (ad_p0 : Nat → Nat) (p0_places : Int32) (p0_steps : Int32) (p0_pastFirst : Int32) (p0_past : Int32) (p0_goings : Int32) (p0_rowSize : Int32) (p0_ways : Int32) (p0_hasField : Int32) (p0_fieldSize : Int32) (p0_faultNow : Int32) (p0_hasTree : Int32) (p0_treeSize : Int32) (p0_weightCount : Int32) (p0_roundCount : Int32) (p0_setCount : Int32) (p0_closes : Nat → Int32) (p0_colour : Nat → Int32) (p0_has : Nat → Int32) (p0_needs : Nat → Int32) (p0_now : Nat → Int32) (p0_puts : Nat → Int32) (p0_sort : Nat → Int32) (p0_takes : Nat → Int32) (p0_way : Nat → Int32) (post : Int32 → (Nat → Int32) → Prop) (A : Nat → Prop) : Array Value → State → Outcome → State → Prop := va_Qi (fun r (u : (Nat → Int32)) => post r u) (fun (u : (Nat → Int32)) t => xPost (dC, dI) A (wld_X10_check cI cJ cZ h_p0 ad_p0 p0_places p0_steps p0_pastFirst p0_past p0_goings p0_rowSize p0_ways p0_hasField p0_fieldSize p0_faultNow p0_hasTree p0_treeSize p0_weightCount p0_roundCount p0_setCount p0_closes p0_colour p0_has p0_needs u p0_puts p0_sort p0_takes p0_way) t) A
def w_X10_check_L12b (p0_places : Int32) (p0_steps : Int32) (p0_ways : Int32) (p0_closes : Nat → Int32) (p0_colour : Nat → Int32) (p0_has : Nat → Int32) (p0_needs : Nat → Int32) (p0_puts : Nat → Int32) (p0_sort : Nat → Int32) (p0_takes : Nat → Int32) (p0_way : Nat → Int32) (post : Int32 → (Nat → Int32) → Prop) (K : (Int32) → (Nat → Int32) → Prop) (rec : (Int32) → (Nat → Int32) → Prop) (v1 : Int32) (p0_now : Nat → Int32) : Prop :=
    (p0_places ≤ v1 →
      K v1 p0_now) ∧
    (¬ p0_places ≤ v1 →
      vp_in v1 16 ∧
      vp_in v1 16 ∧
      ∀ x6 : Int32, x6 = v1 + (1 : Int32) →
      rec x6 (upd p0_now v1.toNatClampNeg (p0_has v1.toNatClampNeg)))
def w_X10_check_L12 (p0_places : Int32) (p0_steps : Int32) (p0_ways : Int32) (p0_closes : Nat → Int32) (p0_colour : Nat → Int32) (p0_has : Nat → Int32) (p0_needs : Nat → Int32) (p0_puts : Nat → Int32) (p0_sort : Nat → Int32) (p0_takes : Nat → Int32) (p0_way : Nat → Int32) (post : Int32 → (Nat → Int32) → Prop) (K : (Int32) → (Nat → Int32) → Prop) : Nat → (Int32) → (Nat → Int32) → Prop
  | 0, _, _ => False
  | n + 1, v1, p0_now => w_X10_check_L12b p0_places p0_steps p0_ways p0_closes p0_colour p0_has p0_needs p0_puts p0_sort p0_takes p0_way post K (w_X10_check_L12 p0_places p0_steps p0_ways p0_closes p0_colour p0_has p0_needs p0_puts p0_sort p0_takes p0_way post K n) v1 p0_now
def w_X10_check_L68b (v1 : Int32) (p0_places : Int32) (p0_steps : Int32) (p0_ways : Int32) (p0_closes : Nat → Int32) (p0_colour : Nat → Int32) (p0_has : Nat → Int32) (p0_needs : Nat → Int32) (p0_puts : Nat → Int32) (p0_sort : Nat → Int32) (p0_takes : Nat → Int32) (p0_way : Nat → Int32) (post : Int32 → (Nat → Int32) → Prop) (K : (Int32) → (Nat → Int32) → Prop) (rec : (Int32) → (Nat → Int32) → Prop) (v2 : Int32) (p0_now : Nat → Int32) : Prop :=
    (p0_places ≤ v2 →
      K v2 p0_now) ∧
    (¬ p0_places ≤ v2 →
      vp_in v2 16 ∧
      vp_in v1 8000 ∧
      vp_in (((16 : Int32) * (p0_way v1.toNatClampNeg)) + v2) 256 ∧
      vp_in v1 8000 ∧
      vp_in (((16 : Int32) * (p0_way v1.toNatClampNeg)) + v2) 256 ∧
      vp_in v2 16 ∧
      ∀ x17 : Int32, x17 = v2 + (1 : Int32) →
      rec x17 (upd p0_now v2.toNatClampNeg ((p0_now v2.toNatClampNeg) + ((p0_puts (((16 : Int32) * (p0_way v1.toNatClampNeg)) + v2).toNatClampNeg) - (p0_takes (((16 : Int32) * (p0_way v1.toNatClampNeg)) + v2).toNatClampNeg)))))
def w_X10_check_L68 (v1 : Int32) (p0_places : Int32) (p0_steps : Int32) (p0_ways : Int32) (p0_closes : Nat → Int32) (p0_colour : Nat → Int32) (p0_has : Nat → Int32) (p0_needs : Nat → Int32) (p0_puts : Nat → Int32) (p0_sort : Nat → Int32) (p0_takes : Nat → Int32) (p0_way : Nat → Int32) (post : Int32 → (Nat → Int32) → Prop) (K : (Int32) → (Nat → Int32) → Prop) : Nat → (Int32) → (Nat → Int32) → Prop
  | 0, _, _ => False
  | n + 1, v2, p0_now => w_X10_check_L68b v1 p0_places p0_steps p0_ways p0_closes p0_colour p0_has p0_needs p0_puts p0_sort p0_takes p0_way post K (w_X10_check_L68 v1 p0_places p0_steps p0_ways p0_closes p0_colour p0_has p0_needs p0_puts p0_sort p0_takes p0_way post K n) v2 p0_now
def w_X10_check_L40b (p0_places : Int32) (p0_steps : Int32) (p0_ways : Int32) (p0_closes : Nat → Int32) (p0_colour : Nat → Int32) (p0_has : Nat → Int32) (p0_needs : Nat → Int32) (p0_puts : Nat → Int32) (p0_sort : Nat → Int32) (p0_takes : Nat → Int32) (p0_way : Nat → Int32) (post : Int32 → (Nat → Int32) → Prop) (K : (Int32) → (Nat → Int32) → Prop) (rec : (Int32) → (Nat → Int32) → Prop) (v1 : Int32) (p0_now : Nat → Int32) : Prop :=
    (p0_ways ≤ v1 →
      K v1 p0_now) ∧
    (¬ p0_ways ≤ v1 →
      vp_in v1 8000 ∧
      w_X10_goes 16 p0_places p0_steps p0_closes p0_needs p0_sort p0_takes p0_now (p0_way v1.toNatClampNeg) (0 : Int32) (fun r12 =>
      (r12 = 0 →
        K v1 p0_now) ∧
      (¬ r12 = 0 →
        ∃ n : Nat, w_X10_check_L68 v1 p0_places p0_steps p0_ways p0_closes p0_colour p0_has p0_needs p0_puts p0_sort p0_takes p0_way post (fun v19 s20 =>
            ∀ x21 : Int32, x21 = v1 + (1 : Int32) →
            rec x21 s20) n (0 : Int32) p0_now)))
def w_X10_check_L40 (p0_places : Int32) (p0_steps : Int32) (p0_ways : Int32) (p0_closes : Nat → Int32) (p0_colour : Nat → Int32) (p0_has : Nat → Int32) (p0_needs : Nat → Int32) (p0_puts : Nat → Int32) (p0_sort : Nat → Int32) (p0_takes : Nat → Int32) (p0_way : Nat → Int32) (post : Int32 → (Nat → Int32) → Prop) (K : (Int32) → (Nat → Int32) → Prop) : Nat → (Int32) → (Nat → Int32) → Prop
  | 0, _, _ => False
  | n + 1, v1, p0_now => w_X10_check_L40b p0_places p0_steps p0_ways p0_closes p0_colour p0_has p0_needs p0_puts p0_sort p0_takes p0_way post K (w_X10_check_L40 p0_places p0_steps p0_ways p0_closes p0_colour p0_has p0_needs p0_puts p0_sort p0_takes p0_way post K n) v1 p0_now
def w_X10_check (p0_places : Int32) (p0_steps : Int32) (p0_ways : Int32) (p0_closes : Nat → Int32) (p0_colour : Nat → Int32) (p0_has : Nat → Int32) (p0_needs : Nat → Int32) (p0_now : Nat → Int32) (p0_puts : Nat → Int32) (p0_sort : Nat → Int32) (p0_takes : Nat → Int32) (p0_way : Nat → Int32) (post : Int32 → (Nat → Int32) → Prop) : Prop :=
  w_X10_hasColour p0_places p0_colour (fun r1 =>
  (r1 = 0 →
    ∃ n : Nat, w_X10_check_L12 p0_places p0_steps p0_ways p0_closes p0_colour p0_has p0_needs p0_puts p0_sort p0_takes p0_way post (fun v8 s9 =>
        ∃ n : Nat, w_X10_check_L40 p0_places p0_steps p0_ways p0_closes p0_colour p0_has p0_needs p0_puts p0_sort p0_takes p0_way post (fun v23 s24 =>
            (post v23 s24)) n (0 : Int32) s9) n (0 : Int32) p0_now) ∧
  (¬ r1 = 0 →
    (post (-2000000002 : Int32) p0_now)))
set_option maxHeartbeats 4000000 in
set_option maxRecDepth 100000 in
theorem c_X10_check_L12 {p : Program} {l : Launch} {e : Env} {s : State} {m : MethodId} {args : Array Value} {below : List Frame} {meth : Method} {c : Code} {dC : Nat → ClassId} {dI : Nat → Nat → Nat} {A : Nat → Prop} {cI cJ cZ : ClassId} {h_p0 : Nat} {ad_p0 : Nat → Nat} {p0_places : Int32} {p0_steps : Int32} {p0_pastFirst : Int32} {p0_past : Int32} {p0_goings : Int32} {p0_rowSize : Int32} {p0_ways : Int32} {p0_hasField : Int32} {p0_fieldSize : Int32} {p0_faultNow : Int32} {p0_hasTree : Int32} {p0_treeSize : Int32} {p0_weightCount : Int32} {p0_roundCount : Int32} {p0_setCount : Int32} {p0_closes : Nat → Int32} {p0_colour : Nat → Int32} {p0_has : Nat → Int32} {p0_needs : Nat → Int32} {p0_puts : Nat → Int32} {p0_sort : Nat → Int32} {p0_takes : Nat → Int32} {p0_way : Nat → Int32} {z_p0_now : Nat → Int32} {post : Int32 → (Nat → Int32) → Prop} {K : (Int32) → (Nat → Int32) → Prop} (E0 : xEnv p s m args meth c cX10_check (some .int) 3 RX10 wsX10_check (dC, dI) cI cJ cZ A) (hk : ∀ (v1 : Int32) (p0_now : Nat → Int32) (H : Heap) (locs : List Loc) (ls : Array Slot), K v1 p0_now → va_P (dC, dI) vwCl (wld_X10_check cI cJ cZ h_p0 ad_p0 p0_places p0_steps p0_pastFirst p0_past p0_goings p0_rowSize p0_ways p0_hasField p0_fieldSize p0_faultNow p0_hasTree p0_treeSize p0_weightCount p0_roundCount p0_setCount p0_closes p0_colour p0_has p0_needs p0_now p0_puts p0_sort p0_takes p0_way) H → va_D A (wld_X10_check cI cJ cZ h_p0 ad_p0 p0_places p0_steps p0_pastFirst p0_past p0_goings p0_rowSize p0_ways p0_hasField p0_fieldSize p0_faultNow p0_hasTree p0_treeSize p0_weightCount p0_roundCount p0_setCount p0_closes p0_colour p0_has p0_needs p0_now p0_puts p0_sort p0_takes p0_way) → va_S A s.heap H locs → lv_has ls 3 [(0, .ref h_p0)] → W p l e ({ frames := 3, cells := 0, slots := 0, locals := 76 }) s m args below meth c H locs 0 0 (MQ below (q_X10_check dC dI cI cJ cZ h_p0 ad_p0 p0_places p0_steps p0_pastFirst p0_past p0_goings p0_rowSize p0_ways p0_hasField p0_fieldSize p0_faultNow p0_hasTree p0_treeSize p0_weightCount p0_roundCount p0_setCount p0_closes p0_colour p0_has p0_needs z_p0_now p0_puts p0_sort p0_takes p0_way post A) args s 0 0 A) (F0 m 38 ls [])) : ∀ (n : Nat) (v1 : Int32) (p0_now : Nat → Int32), w_X10_check_L12 p0_places p0_steps p0_ways p0_closes p0_colour p0_has p0_needs p0_puts p0_sort p0_takes p0_way post K n v1 p0_now → ∀ (H : Heap) (locs : List Loc) (ls : Array Slot), va_P (dC, dI) vwCl (wld_X10_check cI cJ cZ h_p0 ad_p0 p0_places p0_steps p0_pastFirst p0_past p0_goings p0_rowSize p0_ways p0_hasField p0_fieldSize p0_faultNow p0_hasTree p0_treeSize p0_weightCount p0_roundCount p0_setCount p0_closes p0_colour p0_has p0_needs p0_now p0_puts p0_sort p0_takes p0_way) H → va_D A (wld_X10_check cI cJ cZ h_p0 ad_p0 p0_places p0_steps p0_pastFirst p0_past p0_goings p0_rowSize p0_ways p0_hasField p0_fieldSize p0_faultNow p0_hasTree p0_treeSize p0_weightCount p0_roundCount p0_setCount p0_closes p0_colour p0_has p0_needs p0_now p0_puts p0_sort p0_takes p0_way) → va_S A s.heap H locs → lv_has ls 3 [(0, .ref h_p0), (1, .int v1)] → W p l e ({ frames := 3, cells := 0, slots := 0, locals := 76 }) s m args below meth c H locs 0 0 (MQ below (q_X10_check dC dI cI cJ cZ h_p0 ad_p0 p0_places p0_steps p0_pastFirst p0_past p0_goings p0_rowSize p0_ways p0_hasField p0_fieldSize p0_faultNow p0_hasTree p0_treeSize p0_weightCount p0_roundCount p0_setCount p0_closes p0_colour p0_has p0_needs z_p0_now p0_puts p0_sort p0_takes p0_way post A) args s 0 0 A) (F0 m 12 ls []) := by
  obtain ⟨hx, hb, hr, hml, hown, hts, hlocks, hK, hA, n1, n2⟩ := id E0
  have iX10 : ∀ w ∈ u_ws RX10 TX10 50, w ∈ wsX10_check := fun w h => List.mem_cons_of_mem _ (List.mem_append_right _ h)
  intro n
  induction n with
  | zero => intro v1 p0_now hw; exact hw.elim
  | succ n ih =>
    intro v1 p0_now hw H locs ls hP hD hS hl
    have hw : w_X10_check_L12b p0_places p0_steps p0_ways p0_closes p0_colour p0_has p0_needs p0_puts p0_sort p0_takes p0_way post K (w_X10_check_L12 p0_places p0_steps p0_ways p0_closes p0_colour p0_has p0_needs p0_puts p0_sort p0_takes p0_way post K n) v1 p0_now := hw
    unfold w_X10_check_L12b at hw
    refine lv_iload_n hx hb dX10_check_12 rfl (lv_at hl 1 rfl) ?_
    refine lv_aload_n hx hb dX10_check_13 rfl (lv_at hl 0 rfl) ?_
    refine va_get (D := (dC, dI)) (ci := 10) (v := .int p0_places) (C := RX10) (T := TX10) (N := 50) hx hb hts iX10 hown hK hP 0 rfl rfl 0 (by decide) (hts (.fieldLink RX10 127 "NetHouseModel" "places" "I") (by decide +kernel)) (fun _ h9 => h9) rfl dX10_check_14 ?_
    refine lv_icmp_ge (tgt := 38) hx hb dX10_check_17 (by decide) (fun c4 => ?_) (fun c5 => ?_)
    · have hw := hw.1 c4
      exact hk _ _ _ _ _ hw hP hD hS (lv_sub hl [0] rfl)
    · have hw := hw.2 c5
      refine lv_aload_n hx hb dX10_check_20 rfl (lv_at hl 0 rfl) ?_
      refine va_get (D := (dC, dI)) (ci := 10) (v := .ref (ad_p0 23)) (C := RX10) (T := TX10) (N := 50) hx hb hts iX10 hown hK hP 0 rfl rfl 23 (by decide) (hts (.fieldLink RX10 59 "NetHouseModel" "now" "[I") (by decide +kernel)) (fun _ h9 => h9) rfl dX10_check_21 ?_
      refine lv_iload_n hx hb dX10_check_24 rfl (lv_at hl 1 rfl) ?_
      refine lv_aload_n hx hb dX10_check_25 rfl (lv_at hl 0 rfl) ?_
      refine va_get (D := (dC, dI)) (ci := 10) (v := .ref (ad_p0 10)) (C := RX10) (T := TX10) (N := 50) hx hb hts iX10 hown hK hP 0 rfl rfl 10 (by decide) (hts (.fieldLink RX10 34 "NetHouseModel" "has" "[I") (by decide +kernel)) (fun _ h9 => h9) rfl dX10_check_26 ?_
      refine lv_iload_n hx hb dX10_check_29 rfl (lv_at hl 1 rfl) ?_
      refine va_iald hx hb hK hP 3 0 rfl rfl hw.1 dX10_check_30 ?_
      have hw := hw.2
      refine va_iast hx hb hK hP hD hS 5 0 rfl rfl hw.1 dX10_check_31 (fun H locs hP hD hS => ?_)
      have hw := hw.2
      have hP : va_P (dC, dI) vwCl (wld_X10_check cI cJ cZ h_p0 ad_p0 p0_places p0_steps p0_pastFirst p0_past p0_goings p0_rowSize p0_ways p0_hasField p0_fieldSize p0_faultNow p0_hasTree p0_treeSize p0_weightCount p0_roundCount p0_setCount p0_closes p0_colour p0_has p0_needs (upd p0_now v1.toNatClampNeg (p0_has v1.toNatClampNeg)) p0_puts p0_sort p0_takes p0_way) H := hP
      have hD : va_D A (wld_X10_check cI cJ cZ h_p0 ad_p0 p0_places p0_steps p0_pastFirst p0_past p0_goings p0_rowSize p0_ways p0_hasField p0_fieldSize p0_faultNow p0_hasTree p0_treeSize p0_weightCount p0_roundCount p0_setCount p0_closes p0_colour p0_has p0_needs (upd p0_now v1.toNatClampNeg (p0_has v1.toNatClampNeg)) p0_puts p0_sort p0_takes p0_way) := hD
      obtain ⟨x6, ex6⟩ : ∃ y : Int32, y = v1 + (1 : Int32) := ⟨_, rfl⟩
      have hw := hw x6 ex6
      refine lv_iinc (v := x6) (lv' := [(1, .int x6), (0, .ref h_p0)]) hx hb dX10_check_32 hl (k := 1) rfl (by rw [ex6]; rfl) (by decide) rfl (fun ls hl => ?_)
      refine lv_goto (tgt := 12) hx hb dX10_check_35 (by decide) ?_
      exact ih _ _ hw _ _ _ hP hD hS (lv_sub hl [1, 0] rfl)
set_option maxHeartbeats 4000000 in
set_option maxRecDepth 100000 in
theorem c_X10_check_L68 {p : Program} {l : Launch} {e : Env} {s : State} {m : MethodId} {args : Array Value} {below : List Frame} {meth : Method} {c : Code} {dC : Nat → ClassId} {dI : Nat → Nat → Nat} {A : Nat → Prop} {cI cJ cZ : ClassId} {h_p0 : Nat} {ad_p0 : Nat → Nat} {p0_places : Int32} {p0_steps : Int32} {p0_pastFirst : Int32} {p0_past : Int32} {p0_goings : Int32} {p0_rowSize : Int32} {p0_ways : Int32} {p0_hasField : Int32} {p0_fieldSize : Int32} {p0_faultNow : Int32} {p0_hasTree : Int32} {p0_treeSize : Int32} {p0_weightCount : Int32} {p0_roundCount : Int32} {p0_setCount : Int32} {p0_closes : Nat → Int32} {p0_colour : Nat → Int32} {p0_has : Nat → Int32} {p0_needs : Nat → Int32} {p0_puts : Nat → Int32} {p0_sort : Nat → Int32} {p0_takes : Nat → Int32} {p0_way : Nat → Int32} {v1 : Int32} {z_p0_now : Nat → Int32} {post : Int32 → (Nat → Int32) → Prop} {K : (Int32) → (Nat → Int32) → Prop} (E0 : xEnv p s m args meth c cX10_check (some .int) 3 RX10 wsX10_check (dC, dI) cI cJ cZ A) (hk : ∀ (v2 : Int32) (p0_now : Nat → Int32) (H : Heap) (locs : List Loc) (ls : Array Slot), K v2 p0_now → va_P (dC, dI) vwCl (wld_X10_check cI cJ cZ h_p0 ad_p0 p0_places p0_steps p0_pastFirst p0_past p0_goings p0_rowSize p0_ways p0_hasField p0_fieldSize p0_faultNow p0_hasTree p0_treeSize p0_weightCount p0_roundCount p0_setCount p0_closes p0_colour p0_has p0_needs p0_now p0_puts p0_sort p0_takes p0_way) H → va_D A (wld_X10_check cI cJ cZ h_p0 ad_p0 p0_places p0_steps p0_pastFirst p0_past p0_goings p0_rowSize p0_ways p0_hasField p0_fieldSize p0_faultNow p0_hasTree p0_treeSize p0_weightCount p0_roundCount p0_setCount p0_closes p0_colour p0_has p0_needs p0_now p0_puts p0_sort p0_takes p0_way) → va_S A s.heap H locs → lv_has ls 3 [(0, .ref h_p0), (1, .int v1)] → W p l e ({ frames := 3, cells := 0, slots := 0, locals := 76 }) s m args below meth c H locs 0 0 (MQ below (q_X10_check dC dI cI cJ cZ h_p0 ad_p0 p0_places p0_steps p0_pastFirst p0_past p0_goings p0_rowSize p0_ways p0_hasField p0_fieldSize p0_faultNow p0_hasTree p0_treeSize p0_weightCount p0_roundCount p0_setCount p0_closes p0_colour p0_has p0_needs z_p0_now p0_puts p0_sort p0_takes p0_way post A) args s 0 0 A) (F0 m 124 ls [])) : ∀ (n : Nat) (v2 : Int32) (p0_now : Nat → Int32), w_X10_check_L68 v1 p0_places p0_steps p0_ways p0_closes p0_colour p0_has p0_needs p0_puts p0_sort p0_takes p0_way post K n v2 p0_now → ∀ (H : Heap) (locs : List Loc) (ls : Array Slot), va_P (dC, dI) vwCl (wld_X10_check cI cJ cZ h_p0 ad_p0 p0_places p0_steps p0_pastFirst p0_past p0_goings p0_rowSize p0_ways p0_hasField p0_fieldSize p0_faultNow p0_hasTree p0_treeSize p0_weightCount p0_roundCount p0_setCount p0_closes p0_colour p0_has p0_needs p0_now p0_puts p0_sort p0_takes p0_way) H → va_D A (wld_X10_check cI cJ cZ h_p0 ad_p0 p0_places p0_steps p0_pastFirst p0_past p0_goings p0_rowSize p0_ways p0_hasField p0_fieldSize p0_faultNow p0_hasTree p0_treeSize p0_weightCount p0_roundCount p0_setCount p0_closes p0_colour p0_has p0_needs p0_now p0_puts p0_sort p0_takes p0_way) → va_S A s.heap H locs → lv_has ls 3 [(0, .ref h_p0), (1, .int v1), (2, .int v2)] → W p l e ({ frames := 3, cells := 0, slots := 0, locals := 76 }) s m args below meth c H locs 0 0 (MQ below (q_X10_check dC dI cI cJ cZ h_p0 ad_p0 p0_places p0_steps p0_pastFirst p0_past p0_goings p0_rowSize p0_ways p0_hasField p0_fieldSize p0_faultNow p0_hasTree p0_treeSize p0_weightCount p0_roundCount p0_setCount p0_closes p0_colour p0_has p0_needs z_p0_now p0_puts p0_sort p0_takes p0_way post A) args s 0 0 A) (F0 m 68 ls []) := by
  obtain ⟨hx, hb, hr, hml, hown, hts, hlocks, hK, hA, n1, n2⟩ := id E0
  have iX10 : ∀ w ∈ u_ws RX10 TX10 50, w ∈ wsX10_check := fun w h => List.mem_cons_of_mem _ (List.mem_append_right _ h)
  intro n
  induction n with
  | zero => intro v2 p0_now hw; exact hw.elim
  | succ n ih =>
    intro v2 p0_now hw H locs ls hP hD hS hl
    have hw : w_X10_check_L68b v1 p0_places p0_steps p0_ways p0_closes p0_colour p0_has p0_needs p0_puts p0_sort p0_takes p0_way post K (w_X10_check_L68 v1 p0_places p0_steps p0_ways p0_closes p0_colour p0_has p0_needs p0_puts p0_sort p0_takes p0_way post K n) v2 p0_now := hw
    unfold w_X10_check_L68b at hw
    refine lv_iload_n hx hb dX10_check_68 rfl (lv_at hl 2 rfl) ?_
    refine lv_aload_n hx hb dX10_check_69 rfl (lv_at hl 0 rfl) ?_
    refine va_get (D := (dC, dI)) (ci := 10) (v := .int p0_places) (C := RX10) (T := TX10) (N := 50) hx hb hts iX10 hown hK hP 0 rfl rfl 0 (by decide) (hts (.fieldLink RX10 127 "NetHouseModel" "places" "I") (by decide +kernel)) (fun _ h9 => h9) rfl dX10_check_70 ?_
    refine lv_icmp_ge (tgt := 124) hx hb dX10_check_73 (by decide) (fun c15 => ?_) (fun c16 => ?_)
    · have hw := hw.1 c15
      exact hk _ _ _ _ _ hw hP hD hS (lv_sub hl [0, 1] rfl)
    · have hw := hw.2 c16
      refine lv_aload_n hx hb dX10_check_76 rfl (lv_at hl 0 rfl) ?_
      refine va_get (D := (dC, dI)) (ci := 10) (v := .ref (ad_p0 23)) (C := RX10) (T := TX10) (N := 50) hx hb hts iX10 hown hK hP 0 rfl rfl 23 (by decide) (hts (.fieldLink RX10 59 "NetHouseModel" "now" "[I") (by decide +kernel)) (fun _ h9 => h9) rfl dX10_check_77 ?_
      refine lv_iload_n hx hb dX10_check_80 rfl (lv_at hl 2 rfl) ?_
      refine lv_dup2_11 hx hb dX10_check_81 rfl rfl ?_
      refine va_iald hx hb hK hP 5 0 rfl rfl hw.1 dX10_check_82 ?_
      have hw := hw.2
      refine lv_aload_n hx hb dX10_check_83 rfl (lv_at hl 0 rfl) ?_
      refine va_get (D := (dC, dI)) (ci := 10) (v := .ref (ad_p0 5)) (C := RX10) (T := TX10) (N := 50) hx hb hts iX10 hown hK hP 0 rfl rfl 5 (by decide) (hts (.fieldLink RX10 19 "NetHouseModel" "puts" "[I") (by decide +kernel)) (fun _ h9 => h9) rfl dX10_check_84 ?_
      refine lv_bipush (v := 16) hx hb dX10_check_87 (by decide) ?_
      refine lv_aload_n hx hb dX10_check_89 rfl (lv_at hl 0 rfl) ?_
      refine va_get (D := (dC, dI)) (ci := 10) (v := .ref (ad_p0 22)) (C := RX10) (T := TX10) (N := 50) hx hb hts iX10 hown hK hP 0 rfl rfl 22 (by decide) (hts (.fieldLink RX10 56 "NetHouseModel" "way" "[I") (by decide +kernel)) (fun _ h9 => h9) rfl dX10_check_90 ?_
      refine lv_iload_n hx hb dX10_check_93 rfl (lv_at hl 1 rfl) ?_
      refine va_iald hx hb hK hP 9 0 rfl rfl hw.1 dX10_check_94 ?_
      have hw := hw.2
      refine lv_imul hx hb dX10_check_95 ?_
      refine lv_iload_n hx hb dX10_check_96 rfl (lv_at hl 2 rfl) ?_
      refine lv_iadd hx hb dX10_check_97 ?_
      refine va_iald hx hb hK hP 6 0 rfl rfl hw.1 dX10_check_98 ?_
      have hw := hw.2
      refine lv_aload_n hx hb dX10_check_99 rfl (lv_at hl 0 rfl) ?_
      refine va_get (D := (dC, dI)) (ci := 10) (v := .ref (ad_p0 4)) (C := RX10) (T := TX10) (N := 50) hx hb hts iX10 hown hK hP 0 rfl rfl 4 (by decide) (hts (.fieldLink RX10 16 "NetHouseModel" "takes" "[I") (by decide +kernel)) (fun _ h9 => h9) rfl dX10_check_100 ?_
      refine lv_bipush (v := 16) hx hb dX10_check_103 (by decide) ?_
      refine lv_aload_n hx hb dX10_check_105 rfl (lv_at hl 0 rfl) ?_
      refine va_get (D := (dC, dI)) (ci := 10) (v := .ref (ad_p0 22)) (C := RX10) (T := TX10) (N := 50) hx hb hts iX10 hown hK hP 0 rfl rfl 22 (by decide) (hts (.fieldLink RX10 56 "NetHouseModel" "way" "[I") (by decide +kernel)) (fun _ h9 => h9) rfl dX10_check_106 ?_
      refine lv_iload_n hx hb dX10_check_109 rfl (lv_at hl 1 rfl) ?_
      refine va_iald hx hb hK hP 9 0 rfl rfl hw.1 dX10_check_110 ?_
      have hw := hw.2
      refine lv_imul hx hb dX10_check_111 ?_
      refine lv_iload_n hx hb dX10_check_112 rfl (lv_at hl 2 rfl) ?_
      refine lv_iadd hx hb dX10_check_113 ?_
      refine va_iald hx hb hK hP 8 0 rfl rfl hw.1 dX10_check_114 ?_
      have hw := hw.2
      refine lv_isub hx hb dX10_check_115 ?_
      refine lv_iadd hx hb dX10_check_116 ?_
      refine va_iast hx hb hK hP hD hS 5 0 rfl rfl hw.1 dX10_check_117 (fun H locs hP hD hS => ?_)
      have hw := hw.2
      have hP : va_P (dC, dI) vwCl (wld_X10_check cI cJ cZ h_p0 ad_p0 p0_places p0_steps p0_pastFirst p0_past p0_goings p0_rowSize p0_ways p0_hasField p0_fieldSize p0_faultNow p0_hasTree p0_treeSize p0_weightCount p0_roundCount p0_setCount p0_closes p0_colour p0_has p0_needs (upd p0_now v2.toNatClampNeg ((p0_now v2.toNatClampNeg) + ((p0_puts (((16 : Int32) * (p0_way v1.toNatClampNeg)) + v2).toNatClampNeg) - (p0_takes (((16 : Int32) * (p0_way v1.toNatClampNeg)) + v2).toNatClampNeg)))) p0_puts p0_sort p0_takes p0_way) H := hP
      have hD : va_D A (wld_X10_check cI cJ cZ h_p0 ad_p0 p0_places p0_steps p0_pastFirst p0_past p0_goings p0_rowSize p0_ways p0_hasField p0_fieldSize p0_faultNow p0_hasTree p0_treeSize p0_weightCount p0_roundCount p0_setCount p0_closes p0_colour p0_has p0_needs (upd p0_now v2.toNatClampNeg ((p0_now v2.toNatClampNeg) + ((p0_puts (((16 : Int32) * (p0_way v1.toNatClampNeg)) + v2).toNatClampNeg) - (p0_takes (((16 : Int32) * (p0_way v1.toNatClampNeg)) + v2).toNatClampNeg)))) p0_puts p0_sort p0_takes p0_way) := hD
      obtain ⟨x17, ex17⟩ : ∃ y : Int32, y = v2 + (1 : Int32) := ⟨_, rfl⟩
      have hw := hw x17 ex17
      refine lv_iinc (v := x17) (lv' := [(2, .int x17), (0, .ref h_p0), (1, .int v1)]) hx hb dX10_check_118 hl (k := 2) rfl (by rw [ex17]; rfl) (by decide) rfl (fun ls hl => ?_)
      refine lv_goto (tgt := 68) hx hb dX10_check_121 (by decide) ?_
      exact ih _ _ hw _ _ _ hP hD hS (lv_sub hl [1, 2, 0] rfl)
set_option maxHeartbeats 4000000 in
set_option maxRecDepth 100000 in
theorem c_X10_check_L40 {p : Program} {l : Launch} {e : Env} {s : State} {m : MethodId} {args : Array Value} {below : List Frame} {meth : Method} {c : Code} {dC : Nat → ClassId} {dI : Nat → Nat → Nat} {A : Nat → Prop} {cI cJ cZ : ClassId} {h_p0 : Nat} {ad_p0 : Nat → Nat} {p0_places : Int32} {p0_steps : Int32} {p0_pastFirst : Int32} {p0_past : Int32} {p0_goings : Int32} {p0_rowSize : Int32} {p0_ways : Int32} {p0_hasField : Int32} {p0_fieldSize : Int32} {p0_faultNow : Int32} {p0_hasTree : Int32} {p0_treeSize : Int32} {p0_weightCount : Int32} {p0_roundCount : Int32} {p0_setCount : Int32} {p0_closes : Nat → Int32} {p0_colour : Nat → Int32} {p0_has : Nat → Int32} {p0_needs : Nat → Int32} {p0_puts : Nat → Int32} {p0_sort : Nat → Int32} {p0_takes : Nat → Int32} {p0_way : Nat → Int32} {z_p0_now : Nat → Int32} {post : Int32 → (Nat → Int32) → Prop} {K : (Int32) → (Nat → Int32) → Prop} (E0 : xEnv p s m args meth c cX10_check (some .int) 3 RX10 wsX10_check (dC, dI) cI cJ cZ A) (hk : ∀ (v1 : Int32) (p0_now : Nat → Int32) (H : Heap) (locs : List Loc) (ls : Array Slot), K v1 p0_now → va_P (dC, dI) vwCl (wld_X10_check cI cJ cZ h_p0 ad_p0 p0_places p0_steps p0_pastFirst p0_past p0_goings p0_rowSize p0_ways p0_hasField p0_fieldSize p0_faultNow p0_hasTree p0_treeSize p0_weightCount p0_roundCount p0_setCount p0_closes p0_colour p0_has p0_needs p0_now p0_puts p0_sort p0_takes p0_way) H → va_D A (wld_X10_check cI cJ cZ h_p0 ad_p0 p0_places p0_steps p0_pastFirst p0_past p0_goings p0_rowSize p0_ways p0_hasField p0_fieldSize p0_faultNow p0_hasTree p0_treeSize p0_weightCount p0_roundCount p0_setCount p0_closes p0_colour p0_has p0_needs p0_now p0_puts p0_sort p0_takes p0_way) → va_S A s.heap H locs → lv_has ls 3 [(1, .int v1)] → W p l e ({ frames := 3, cells := 0, slots := 0, locals := 76 }) s m args below meth c H locs 0 0 (MQ below (q_X10_check dC dI cI cJ cZ h_p0 ad_p0 p0_places p0_steps p0_pastFirst p0_past p0_goings p0_rowSize p0_ways p0_hasField p0_fieldSize p0_faultNow p0_hasTree p0_treeSize p0_weightCount p0_roundCount p0_setCount p0_closes p0_colour p0_has p0_needs z_p0_now p0_puts p0_sort p0_takes p0_way post A) args s 0 0 A) (F0 m 130 ls [])) : ∀ (n : Nat) (v1 : Int32) (p0_now : Nat → Int32), w_X10_check_L40 p0_places p0_steps p0_ways p0_closes p0_colour p0_has p0_needs p0_puts p0_sort p0_takes p0_way post K n v1 p0_now → ∀ (H : Heap) (locs : List Loc) (ls : Array Slot), va_P (dC, dI) vwCl (wld_X10_check cI cJ cZ h_p0 ad_p0 p0_places p0_steps p0_pastFirst p0_past p0_goings p0_rowSize p0_ways p0_hasField p0_fieldSize p0_faultNow p0_hasTree p0_treeSize p0_weightCount p0_roundCount p0_setCount p0_closes p0_colour p0_has p0_needs p0_now p0_puts p0_sort p0_takes p0_way) H → va_D A (wld_X10_check cI cJ cZ h_p0 ad_p0 p0_places p0_steps p0_pastFirst p0_past p0_goings p0_rowSize p0_ways p0_hasField p0_fieldSize p0_faultNow p0_hasTree p0_treeSize p0_weightCount p0_roundCount p0_setCount p0_closes p0_colour p0_has p0_needs p0_now p0_puts p0_sort p0_takes p0_way) → va_S A s.heap H locs → lv_has ls 3 [(0, .ref h_p0), (1, .int v1)] → W p l e ({ frames := 3, cells := 0, slots := 0, locals := 76 }) s m args below meth c H locs 0 0 (MQ below (q_X10_check dC dI cI cJ cZ h_p0 ad_p0 p0_places p0_steps p0_pastFirst p0_past p0_goings p0_rowSize p0_ways p0_hasField p0_fieldSize p0_faultNow p0_hasTree p0_treeSize p0_weightCount p0_roundCount p0_setCount p0_closes p0_colour p0_has p0_needs z_p0_now p0_puts p0_sort p0_takes p0_way post A) args s 0 0 A) (F0 m 40 ls []) := by
  obtain ⟨hx, hb, hr, hml, hown, hts, hlocks, hK, hA, n1, n2⟩ := id E0
  have iX10 : ∀ w ∈ u_ws RX10 TX10 50, w ∈ wsX10_check := fun w h => List.mem_cons_of_mem _ (List.mem_append_right _ h)
  intro n
  induction n with
  | zero => intro v1 p0_now hw; exact hw.elim
  | succ n ih =>
    intro v1 p0_now hw H locs ls hP hD hS hl
    have hw : w_X10_check_L40b p0_places p0_steps p0_ways p0_closes p0_colour p0_has p0_needs p0_puts p0_sort p0_takes p0_way post K (w_X10_check_L40 p0_places p0_steps p0_ways p0_closes p0_colour p0_has p0_needs p0_puts p0_sort p0_takes p0_way post K n) v1 p0_now := hw
    unfold w_X10_check_L40b at hw
    refine lv_iload_n hx hb dX10_check_40 rfl (lv_at hl 1 rfl) ?_
    refine lv_aload_n hx hb dX10_check_41 rfl (lv_at hl 0 rfl) ?_
    refine va_get (D := (dC, dI)) (ci := 10) (v := .int p0_ways) (C := RX10) (T := TX10) (N := 50) hx hb hts iX10 hown hK hP 0 rfl rfl 21 (by decide) (hts (.fieldLink RX10 225 "NetHouseModel" "ways" "I") (by decide +kernel)) (fun _ h9 => h9) rfl dX10_check_42 ?_
    refine lv_icmp_ge (tgt := 130) hx hb dX10_check_45 (by decide) (fun c10 => ?_) (fun c11 => ?_)
    · have hw := hw.1 c10
      exact hk _ _ _ _ _ hw hP hD hS (lv_sub hl [1] rfl)
    · have hw := hw.2 c11
      refine lv_aload_n hx hb dX10_check_48 rfl (lv_at hl 0 rfl) ?_
      refine lv_aload_n hx hb dX10_check_49 rfl (lv_at hl 0 rfl) ?_
      refine va_get (D := (dC, dI)) (ci := 10) (v := .ref (ad_p0 22)) (C := RX10) (T := TX10) (N := 50) hx hb hts iX10 hown hK hP 0 rfl rfl 22 (by decide) (hts (.fieldLink RX10 56 "NetHouseModel" "way" "[I") (by decide +kernel)) (fun _ h9 => h9) rfl dX10_check_50 ?_
      refine lv_iload_n hx hb dX10_check_53 rfl (lv_at hl 1 rfl) ?_
      refine va_iald hx hb hK hP 9 0 rfl rfl hw.1 dX10_check_54 ?_
      have hw := hw.2
      refine lv_aload_n hx hb dX10_check_55 rfl (lv_at hl 0 rfl) ?_
      refine va_get (D := (dC, dI)) (ci := 10) (v := .ref (ad_p0 23)) (C := RX10) (T := TX10) (N := 50) hx hb hts iX10 hown hK hP 0 rfl rfl 23 (by decide) (hts (.fieldLink RX10 59 "NetHouseModel" "now" "[I") (by decide +kernel)) (fun _ h9 => h9) rfl dX10_check_56 ?_
      refine lv_iconst (v := 0) hx hb dX10_check_59 (by decide) ?_
      obtain ⟨hPc, hDc⟩ := x_sub (wc := (wld_X10_goes cI cJ cZ h_p0 (ad_p0 23) ad_p0 16 p0_places p0_steps p0_pastFirst p0_past p0_goings p0_rowSize p0_ways p0_hasField p0_fieldSize p0_faultNow p0_hasTree p0_treeSize p0_weightCount p0_roundCount p0_setCount p0_closes p0_needs p0_sort p0_takes p0_now)) hP hD [0, 1, 4, 7, 8, 5] (n := 10) rfl rfl (by decide +kernel)
      refine x_calli (ws' := fun (u : Unit) => (wld_X10_check cI cJ cZ h_p0 ad_p0 p0_places p0_steps p0_pastFirst p0_past p0_goings p0_rowSize p0_ways p0_hasField p0_fieldSize p0_faultNow p0_hasTree p0_treeSize p0_weightCount p0_roundCount p0_setCount p0_closes p0_colour p0_has p0_needs p0_now p0_puts p0_sort p0_takes p0_way)) hP hD hS hA [0, 1, 4, 7, 8, 5] [2, 3, 6, 9] [4, 5, 0, 1, 6, 9, 2, 7, 8, 3] (n := 10) (k := 6) rfl (fun _ => rfl) rfl (by decide +kernel) (fun _ => rfl) (va_runV (As := [.int (p0_way v1.toNatClampNeg), .ref (ad_p0 23), .int (0 : Int32)]) (rest := []) ⟨hx, hb, hml, hown, hts⟩ (c_X10_goes (l := l) (dC := dC) (dI := dI) (cI := cI) (cJ := cJ) (cZ := cZ) (sz := H.size) (h_p0 := h_p0) (h_p2 := (ad_p0 23)) (ad_p0 := ad_p0) (n_p2 := 16) (p0_places := p0_places) (p0_steps := p0_steps) (p0_pastFirst := p0_pastFirst) (p0_past := p0_past) (p0_goings := p0_goings) (p0_rowSize := p0_rowSize) (p0_ways := p0_ways) (p0_hasField := p0_hasField) (p0_fieldSize := p0_fieldSize) (p0_faultNow := p0_faultNow) (p0_hasTree := p0_hasTree) (p0_treeSize := p0_treeSize) (p0_weightCount := p0_weightCount) (p0_roundCount := p0_roundCount) (p0_setCount := p0_setCount) (p0_closes := p0_closes) (p0_needs := p0_needs) (p0_sort := p0_sort) (p0_takes := p0_takes) (p2 := p0_now) hw) (cwV 3 hts gX10_check_X10_goes rfl rfl rfl (by decide +kernel) ⟨Nat.le_of_ble_eq_true rfl, Nat.le_of_ble_eq_true rfl⟩) ⟨xPre_blind, va_recv hK hP (ci := 10) (q0 := 0) rfl rfl, xPre_at hK hPc hDc n1 n2⟩ rfl rfl hl.1 rfl (lv_room (Nat.le_of_ble_eq_true rfl)) dX10_check_60 ⟨Nat.zero_le _, Nat.zero_le _⟩) (fun r12 u H locs hw hP hD hS => ?_)
      try dsimp only at hw
      have hP : va_P (dC, dI) vwCl (wld_X10_check cI cJ cZ h_p0 ad_p0 p0_places p0_steps p0_pastFirst p0_past p0_goings p0_rowSize p0_ways p0_hasField p0_fieldSize p0_faultNow p0_hasTree p0_treeSize p0_weightCount p0_roundCount p0_setCount p0_closes p0_colour p0_has p0_needs p0_now p0_puts p0_sort p0_takes p0_way) H := hP
      have hD : va_D A (wld_X10_check cI cJ cZ h_p0 ad_p0 p0_places p0_steps p0_pastFirst p0_past p0_goings p0_rowSize p0_ways p0_hasField p0_fieldSize p0_faultNow p0_hasTree p0_treeSize p0_weightCount p0_roundCount p0_setCount p0_closes p0_colour p0_has p0_needs p0_now p0_puts p0_sort p0_takes p0_way) := hD
      refine lv_if_eq (tgt := 130) hx hb dX10_check_63 (by decide) (fun c13 => ?_) (fun c14 => ?_)
      · have hw := hw.1 c13
        exact hk _ _ _ _ _ hw hP hD hS (lv_sub hl [1] rfl)
      · have hw := hw.2 c14
        refine lv_iconst (v := 0) hx hb dX10_check_66 (by decide) ?_
        refine lv_istore_n (lv' := [(2, .int (0 : Int32)), (0, .ref h_p0), (1, .int v1)]) hx hb dX10_check_67 rfl hl (by decide) rfl (fun ls hl => ?_)
        obtain ⟨n18, hw⟩ := hw
        refine c_X10_check_L68 (l := l) (z_p0_now := p0_now) E0 ?_ n18 _ _ hw _ _ _ hP hD hS (lv_sub hl [1, 2, 0] rfl)
        · intro v19 s20 H locs ls hw hP hD hS hl
          have hP : va_P (dC, dI) vwCl (wld_X10_check cI cJ cZ h_p0 ad_p0 p0_places p0_steps p0_pastFirst p0_past p0_goings p0_rowSize p0_ways p0_hasField p0_fieldSize p0_faultNow p0_hasTree p0_treeSize p0_weightCount p0_roundCount p0_setCount p0_closes p0_colour p0_has p0_needs s20 p0_puts p0_sort p0_takes p0_way) H := hP
          have hD : va_D A (wld_X10_check cI cJ cZ h_p0 ad_p0 p0_places p0_steps p0_pastFirst p0_past p0_goings p0_rowSize p0_ways p0_hasField p0_fieldSize p0_faultNow p0_hasTree p0_treeSize p0_weightCount p0_roundCount p0_setCount p0_closes p0_colour p0_has p0_needs s20 p0_puts p0_sort p0_takes p0_way) := hD
          obtain ⟨x21, ex21⟩ : ∃ y : Int32, y = v1 + (1 : Int32) := ⟨_, rfl⟩
          have hw := hw x21 ex21
          refine lv_iinc (v := x21) (lv' := [(1, .int x21), (0, .ref h_p0)]) hx hb dX10_check_124 hl (k := 1) rfl (by rw [ex21]; rfl) (by decide) rfl (fun ls hl => ?_)
          refine lv_goto (tgt := 40) hx hb dX10_check_127 (by decide) ?_
          exact ih _ _ hw _ _ _ hP hD hS (lv_sub hl [1, 0] rfl)
set_option maxHeartbeats 4000000 in
set_option maxRecDepth 100000 in
theorem c_X10_check {l : Launch} {dC : Nat → ClassId} {dI : Nat → Nat → Nat} {sz : Nat} {cI cJ cZ : ClassId} {h_p0 : Nat} {ad_p0 : Nat → Nat} {p0_places : Int32} {p0_steps : Int32} {p0_pastFirst : Int32} {p0_past : Int32} {p0_goings : Int32} {p0_rowSize : Int32} {p0_ways : Int32} {p0_hasField : Int32} {p0_fieldSize : Int32} {p0_faultNow : Int32} {p0_hasTree : Int32} {p0_treeSize : Int32} {p0_weightCount : Int32} {p0_roundCount : Int32} {p0_setCount : Int32} {p0_closes : Nat → Int32} {p0_colour : Nat → Int32} {p0_has : Nat → Int32} {p0_needs : Nat → Int32} {p0_now : Nat → Int32} {p0_puts : Nat → Int32} {p0_sort : Nat → Int32} {p0_takes : Nat → Int32} {p0_way : Nat → Int32}  {post : Int32 → (Nat → Int32) → Prop} (hw : w_X10_check p0_places p0_steps p0_ways p0_closes p0_colour p0_has p0_needs p0_now p0_puts p0_sort p0_takes p0_way post) : Met l yX10_check wsX10_check ({ frames := 3, cells := 0, slots := 0, locals := 76 }) (va_Pc [.ref h_p0] (xPre (dC, dI) cI cJ cZ (wld_X10_check cI cJ cZ h_p0 ad_p0 p0_places p0_steps p0_pastFirst p0_past p0_goings p0_rowSize p0_ways p0_hasField p0_fieldSize p0_faultNow p0_hasTree p0_treeSize p0_weightCount p0_roundCount p0_setCount p0_closes p0_colour p0_has p0_needs p0_now p0_puts p0_sort p0_takes p0_way) sz)) (q_X10_check dC dI cI cJ cZ h_p0 ad_p0 p0_places p0_steps p0_pastFirst p0_past p0_goings p0_rowSize p0_ways p0_hasField p0_fieldSize p0_faultNow p0_hasTree p0_treeSize p0_weightCount p0_roundCount p0_setCount p0_closes p0_colour p0_has p0_needs p0_now p0_puts p0_sort p0_takes p0_way post (va_A (wld_X10_check cI cJ cZ h_p0 ad_p0 p0_places p0_steps p0_pastFirst p0_past p0_goings p0_rowSize p0_ways p0_hasField p0_fieldSize p0_faultNow p0_hasTree p0_treeSize p0_weightCount p0_roundCount p0_setCount p0_closes p0_colour p0_has p0_needs p0_now p0_puts p0_sort p0_takes p0_way) sz)) 0 0 (va_A (wld_X10_check cI cJ cZ h_p0 ad_p0 p0_places p0_steps p0_pastFirst p0_past p0_goings p0_rowSize p0_ways p0_hasField p0_fieldSize p0_faultNow p0_hasTree p0_treeSize p0_weightCount p0_roundCount p0_setCount p0_closes p0_colour p0_has p0_needs p0_now p0_puts p0_sort p0_takes p0_way) sz) := by
  refine x_met (cc := cX10_check) (maxL := 3) (ret := (some .int)) (own := RX10) (Qc := fun A => (q_X10_check dC dI cI cJ cZ h_p0 ad_p0 p0_places p0_steps p0_pastFirst p0_past p0_goings p0_rowSize p0_ways p0_hasField p0_fieldSize p0_faultNow p0_hasTree p0_treeSize p0_weightCount p0_roundCount p0_setCount p0_closes p0_colour p0_has p0_needs p0_now p0_puts p0_sort p0_takes p0_way post A)) (by decide) rfl rfl (Nat.le_of_ble_eq_true rfl) ?_
  intro p e s m args below meth c A ls E0 hP hD hS hl
  obtain ⟨hx, hb, hr, hml, hown, hts, hlocks, hK, hA, n1, n2⟩ := id E0
  have iX10 : ∀ w ∈ u_ws RX10 TX10 50, w ∈ wsX10_check := fun w h => List.mem_cons_of_mem _ (List.mem_append_right _ h)
  have hS0 := hS
  have hl : lv_has ls 3 [(0, .ref h_p0)] := hl
  unfold w_X10_check at hw
  obtain ⟨H, hH⟩ : ∃ H, H = s.heap := ⟨_, rfl⟩
  have hS : va_S A s.heap H [] := by rw [hH]; exact hS
  have hP : va_P (dC, dI) vwCl (wld_X10_check cI cJ cZ h_p0 ad_p0 p0_places p0_steps p0_pastFirst p0_past p0_goings p0_rowSize p0_ways p0_hasField p0_fieldSize p0_faultNow p0_hasTree p0_treeSize p0_weightCount p0_roundCount p0_setCount p0_closes p0_colour p0_has p0_needs p0_now p0_puts p0_sort p0_takes p0_way) H := by rw [hH]; exact hP
  suffices hG : W p l e ({ frames := 3, cells := 0, slots := 0, locals := 76 }) s m args below meth c H [] 0 0 (MQ below (q_X10_check dC dI cI cJ cZ h_p0 ad_p0 p0_places p0_steps p0_pastFirst p0_past p0_goings p0_rowSize p0_ways p0_hasField p0_fieldSize p0_faultNow p0_hasTree p0_treeSize p0_weightCount p0_roundCount p0_setCount p0_closes p0_colour p0_has p0_needs p0_now p0_puts p0_sort p0_takes p0_way post A) args s 0 0 A) (F0 m 0 ls []) by rw [hH] at hG; exact hG
  clear hH
  refine lv_aload_n hx hb dX10_check_0 rfl (lv_at hl 0 rfl) ?_
  obtain ⟨hPc, hDc⟩ := x_sub (wc := (wld_X10_hasColour cI cJ cZ h_p0 ad_p0 p0_places p0_steps p0_pastFirst p0_past p0_goings p0_rowSize p0_ways p0_hasField p0_fieldSize p0_faultNow p0_hasTree p0_treeSize p0_weightCount p0_roundCount p0_setCount p0_colour)) hP hD [0, 2] (n := 10) rfl rfl (by decide +kernel)
  refine x_calli (ws' := fun (u : Unit) => (wld_X10_check cI cJ cZ h_p0 ad_p0 p0_places p0_steps p0_pastFirst p0_past p0_goings p0_rowSize p0_ways p0_hasField p0_fieldSize p0_faultNow p0_hasTree p0_treeSize p0_weightCount p0_roundCount p0_setCount p0_closes p0_colour p0_has p0_needs p0_now p0_puts p0_sort p0_takes p0_way)) hP hD hS hA [0, 2] [1, 3, 4, 5, 6, 7, 8, 9] [8, 0, 9, 1, 2, 3, 4, 5, 6, 7] (n := 10) (k := 2) rfl (fun _ => rfl) rfl (by decide +kernel) (fun _ => rfl) (va_runV (As := []) (rest := []) ⟨hx, hb, hml, hown, hts⟩ (c_X10_hasColour (l := l) (dC := dC) (dI := dI) (cI := cI) (cJ := cJ) (cZ := cZ) (sz := H.size) (h_p0 := h_p0) (ad_p0 := ad_p0) (p0_places := p0_places) (p0_steps := p0_steps) (p0_pastFirst := p0_pastFirst) (p0_past := p0_past) (p0_goings := p0_goings) (p0_rowSize := p0_rowSize) (p0_ways := p0_ways) (p0_hasField := p0_hasField) (p0_fieldSize := p0_fieldSize) (p0_faultNow := p0_faultNow) (p0_hasTree := p0_hasTree) (p0_treeSize := p0_treeSize) (p0_weightCount := p0_weightCount) (p0_roundCount := p0_roundCount) (p0_setCount := p0_setCount) (p0_colour := p0_colour) hw) (cwV 0 hts gX10_check_X10_hasColour rfl rfl rfl (by decide +kernel) ⟨Nat.le_of_ble_eq_true rfl, Nat.le_of_ble_eq_true rfl⟩) ⟨xPre_blind, va_recv hK hP (ci := 10) (q0 := 0) rfl rfl, xPre_at hK hPc hDc n1 n2⟩ rfl rfl hl.1 rfl (lv_room (Nat.le_of_ble_eq_true rfl)) dX10_check_1 ⟨Nat.zero_le _, Nat.zero_le _⟩) (fun r1 u H locs hw hP hD hS => ?_)
  try dsimp only at hw
  have hP : va_P (dC, dI) vwCl (wld_X10_check cI cJ cZ h_p0 ad_p0 p0_places p0_steps p0_pastFirst p0_past p0_goings p0_rowSize p0_ways p0_hasField p0_fieldSize p0_faultNow p0_hasTree p0_treeSize p0_weightCount p0_roundCount p0_setCount p0_closes p0_colour p0_has p0_needs p0_now p0_puts p0_sort p0_takes p0_way) H := hP
  have hD : va_D A (wld_X10_check cI cJ cZ h_p0 ad_p0 p0_places p0_steps p0_pastFirst p0_past p0_goings p0_rowSize p0_ways p0_hasField p0_fieldSize p0_faultNow p0_hasTree p0_treeSize p0_weightCount p0_roundCount p0_setCount p0_closes p0_colour p0_has p0_needs p0_now p0_puts p0_sort p0_takes p0_way) := hD
  refine lv_if_eq (tgt := 10) hx hb dX10_check_4 (by decide) (fun c2 => ?_) (fun c3 => ?_)
  · have hw := hw.1 c2
    refine lv_iconst (v := 0) hx hb dX10_check_10 (by decide) ?_
    refine lv_istore_n (lv' := [(1, .int (0 : Int32)), (0, .ref h_p0)]) hx hb dX10_check_11 rfl hl (by decide) rfl (fun ls hl => ?_)
    obtain ⟨n7, hw⟩ := hw
    refine c_X10_check_L12 (l := l) (z_p0_now := p0_now) E0 ?_ n7 _ _ hw _ _ _ hP hD hS (lv_sub hl [1, 0] rfl)
    · intro v8 s9 H locs ls hw hP hD hS hl
      have hP : va_P (dC, dI) vwCl (wld_X10_check cI cJ cZ h_p0 ad_p0 p0_places p0_steps p0_pastFirst p0_past p0_goings p0_rowSize p0_ways p0_hasField p0_fieldSize p0_faultNow p0_hasTree p0_treeSize p0_weightCount p0_roundCount p0_setCount p0_closes p0_colour p0_has p0_needs s9 p0_puts p0_sort p0_takes p0_way) H := hP
      have hD : va_D A (wld_X10_check cI cJ cZ h_p0 ad_p0 p0_places p0_steps p0_pastFirst p0_past p0_goings p0_rowSize p0_ways p0_hasField p0_fieldSize p0_faultNow p0_hasTree p0_treeSize p0_weightCount p0_roundCount p0_setCount p0_closes p0_colour p0_has p0_needs s9 p0_puts p0_sort p0_takes p0_way) := hD
      refine lv_iconst (v := 0) hx hb dX10_check_38 (by decide) ?_
      refine lv_istore_n (lv' := [(1, .int (0 : Int32)), (0, .ref h_p0)]) hx hb dX10_check_39 rfl hl (by decide) rfl (fun ls hl => ?_)
      obtain ⟨n22, hw⟩ := hw
      refine c_X10_check_L40 (l := l) (z_p0_now := s9) E0 ?_ n22 _ _ hw _ _ _ hP hD hS (lv_sub hl [1, 0] rfl)
      · intro v23 s24 H locs ls hw hP hD hS hl
        have hP : va_P (dC, dI) vwCl (wld_X10_check cI cJ cZ h_p0 ad_p0 p0_places p0_steps p0_pastFirst p0_past p0_goings p0_rowSize p0_ways p0_hasField p0_fieldSize p0_faultNow p0_hasTree p0_treeSize p0_weightCount p0_roundCount p0_setCount p0_closes p0_colour p0_has p0_needs s24 p0_puts p0_sort p0_takes p0_way) H := hP
        have hD : va_D A (wld_X10_check cI cJ cZ h_p0 ad_p0 p0_places p0_steps p0_pastFirst p0_past p0_goings p0_rowSize p0_ways p0_hasField p0_fieldSize p0_faultNow p0_hasTree p0_treeSize p0_weightCount p0_roundCount p0_setCount p0_closes p0_colour p0_has p0_needs s24 p0_puts p0_sort p0_takes p0_way) := hD
        refine lv_iload_n hx hb dX10_check_130 rfl (lv_at hl 0 rfl) ?_
        exact x_iret (w1 := fun (u : (Nat → Int32)) => (wld_X10_check cI cJ cZ h_p0 ad_p0 p0_places p0_steps p0_pastFirst p0_past p0_goings p0_rowSize p0_ways p0_hasField p0_fieldSize p0_faultNow p0_hasTree p0_treeSize p0_weightCount p0_roundCount p0_setCount p0_closes p0_colour p0_has p0_needs u p0_puts p0_sort p0_takes p0_way)) hx hb hr hlocks (s24) hw hP hD hS dX10_check_131
  · have hw := hw.2 c3
    refine lv_ldc (v := -2000000002) hx hb hown (hts (.constant RX10 171 (-2000000002)) (by decide +kernel)) dX10_check_7 ?_
    exact x_iret (w1 := fun (u : (Nat → Int32)) => (wld_X10_check cI cJ cZ h_p0 ad_p0 p0_places p0_steps p0_pastFirst p0_past p0_goings p0_rowSize p0_ways p0_hasField p0_fieldSize p0_faultNow p0_hasTree p0_treeSize p0_weightCount p0_roundCount p0_setCount p0_closes p0_colour p0_has p0_needs u p0_puts p0_sort p0_takes p0_way)) hx hb hr hlocks (p0_now) hw hP hD hS dX10_check_9
abbrev wld_X10_compared (cI cJ cZ : ClassId) (h_p0 : Nat) (ad_p0 : Nat → Nat) (p0_places : Int32) (p0_steps : Int32) (p0_pastFirst : Int32) (p0_past : Int32) (p0_goings : Int32) (p0_rowSize : Int32) (p0_ways : Int32) (p0_hasField : Int32) (p0_fieldSize : Int32) (p0_faultNow : Int32) (p0_hasTree : Int32) (p0_treeSize : Int32) (p0_weightCount : Int32) (p0_roundCount : Int32) (p0_setCount : Int32) (p0_come : Nat → Int32) (p0_field : Nat → Int32) : va_W := [(h_p0, .inr (10, [.int p0_places, .int p0_steps, .ref (ad_p0 2), .ref (ad_p0 3), .ref (ad_p0 4), .ref (ad_p0 5), .ref (ad_p0 6), .ref (ad_p0 7), .ref (ad_p0 8), .ref (ad_p0 9), .ref (ad_p0 10), .ref (ad_p0 11), .ref (ad_p0 12), .ref (ad_p0 13), .ref (ad_p0 14), .int p0_pastFirst, .int p0_past, .int p0_goings, .int p0_rowSize, .ref (ad_p0 19), .ref (ad_p0 20), .int p0_ways, .ref (ad_p0 22), .ref (ad_p0 23), .int p0_hasField, .int p0_fieldSize, .ref (ad_p0 26), .ref (ad_p0 27), .ref (ad_p0 28), .ref (ad_p0 29), .ref (ad_p0 30), .ref (ad_p0 31), .ref (ad_p0 32), .int p0_faultNow, .int p0_hasTree, .int p0_treeSize, .ref (ad_p0 36), .ref (ad_p0 37), .ref (ad_p0 38), .ref (ad_p0 39), .ref (ad_p0 40), .ref (ad_p0 41), .ref (ad_p0 42), .int p0_weightCount, .ref (ad_p0 44), .int p0_roundCount, .ref (ad_p0 46), .int p0_setCount, .ref (ad_p0 48), .ref (ad_p0 49)])), ((ad_p0 31), .inl (cI, 16, .inl p0_come)), ((ad_p0 26), .inl (cI, 128000, .inl p0_field))]
abbrev q_X10_compared (dC : Nat → ClassId) (dI : Nat → Nat → Nat) (cI cJ cZ : ClassId) (h_p0 : Nat) (ad_p0 : Nat → Nat) (p0_places : Int32) (p0_steps : Int32) (p0_pastFirst : Int32) (p0_past : Int32) (p0_goings : Int32) (p0_rowSize : Int32) (p0_ways : Int32) (p0_hasField : Int32) (p0_fieldSize : Int32) (p0_faultNow : Int32) (p0_hasTree : Int32) (p0_treeSize : Int32) (p0_weightCount : Int32) (p0_roundCount : Int32) (p0_setCount : Int32) (p0_come : Nat → Int32) (p0_field : Nat → Int32) (post : Int32 → Prop) (A : Nat → Prop) : Array Value → State → Outcome → State → Prop := va_Qi (fun r (u : Unit) => post r ) (fun (u : Unit) t => xPost (dC, dI) A (wld_X10_compared cI cJ cZ h_p0 ad_p0 p0_places p0_steps p0_pastFirst p0_past p0_goings p0_rowSize p0_ways p0_hasField p0_fieldSize p0_faultNow p0_hasTree p0_treeSize p0_weightCount p0_roundCount p0_setCount p0_come p0_field) t) A
def w_X10_compared_L2b (v1 : Int32) (p0_places : Int32) (p0_come : Nat → Int32) (p0_field : Nat → Int32) (post : Int32 → Prop) (K : (Int32) → Prop) (rec : (Int32) → Prop) (v2 : Int32) : Prop :=
    (p0_places ≤ v2 →
      K v2) ∧
    (¬ p0_places ≤ v2 →
      vp_in (((16 : Int32) * v1) + v2) 128000 ∧
      vp_in v2 16 ∧
      ((p0_field (((16 : Int32) * v1) + v2).toNatClampNeg) = (p0_come v2.toNatClampNeg) →
        ∀ x5 : Int32, x5 = v2 + (1 : Int32) →
        rec x5) ∧
      (¬ (p0_field (((16 : Int32) * v1) + v2).toNatClampNeg) = (p0_come v2.toNatClampNeg) →
        vp_in (((16 : Int32) * v1) + v2) 128000 ∧
        vp_in v2 16 ∧
        ((p0_come v2.toNatClampNeg) ≤ (p0_field (((16 : Int32) * v1) + v2).toNatClampNeg) →
          (post (1 : Int32))) ∧
        (¬ (p0_come v2.toNatClampNeg) ≤ (p0_field (((16 : Int32) * v1) + v2).toNatClampNeg) →
          (post (-1 : Int32)))))
def w_X10_compared_L2 (v1 : Int32) (p0_places : Int32) (p0_come : Nat → Int32) (p0_field : Nat → Int32) (post : Int32 → Prop) (K : (Int32) → Prop) : Nat → (Int32) → Prop
  | 0, _ => False
  | n + 1, v2 => w_X10_compared_L2b v1 p0_places p0_come p0_field post K (w_X10_compared_L2 v1 p0_places p0_come p0_field post K n) v2
def w_X10_compared (p0_places : Int32) (p0_come : Nat → Int32) (p0_field : Nat → Int32) (a1 : Int32) (post : Int32 → Prop) : Prop :=
  ∃ n : Nat, w_X10_compared_L2 a1 p0_places p0_come p0_field post (fun v9 =>
      (post (0 : Int32))) n (0 : Int32)
set_option maxHeartbeats 4000000 in
set_option maxRecDepth 100000 in
theorem c_X10_compared_L2 {p : Program} {l : Launch} {e : Env} {s : State} {m : MethodId} {args : Array Value} {below : List Frame} {meth : Method} {c : Code} {dC : Nat → ClassId} {dI : Nat → Nat → Nat} {A : Nat → Prop} {cI cJ cZ : ClassId} {h_p0 : Nat} {ad_p0 : Nat → Nat} {p0_places : Int32} {p0_steps : Int32} {p0_pastFirst : Int32} {p0_past : Int32} {p0_goings : Int32} {p0_rowSize : Int32} {p0_ways : Int32} {p0_hasField : Int32} {p0_fieldSize : Int32} {p0_faultNow : Int32} {p0_hasTree : Int32} {p0_treeSize : Int32} {p0_weightCount : Int32} {p0_roundCount : Int32} {p0_setCount : Int32} {p0_come : Nat → Int32} {p0_field : Nat → Int32} {v1 : Int32}  {post : Int32 → Prop} {K : (Int32) → Prop} (E0 : xEnv p s m args meth c cX10_compared (some .int) 3 RX10 wsX10_compared (dC, dI) cI cJ cZ A) (hk : ∀ (v2 : Int32) (H : Heap) (locs : List Loc) (ls : Array Slot), K v2 → va_P (dC, dI) vwCl (wld_X10_compared cI cJ cZ h_p0 ad_p0 p0_places p0_steps p0_pastFirst p0_past p0_goings p0_rowSize p0_ways p0_hasField p0_fieldSize p0_faultNow p0_hasTree p0_treeSize p0_weightCount p0_roundCount p0_setCount p0_come p0_field) H → va_D A (wld_X10_compared cI cJ cZ h_p0 ad_p0 p0_places p0_steps p0_pastFirst p0_past p0_goings p0_rowSize p0_ways p0_hasField p0_fieldSize p0_faultNow p0_hasTree p0_treeSize p0_weightCount p0_roundCount p0_setCount p0_come p0_field) → va_S A s.heap H locs → lv_has ls 3 [] → W p l e ({ frames := 0, cells := 0, slots := 0, locals := 0 }) s m args below meth c H locs 0 0 (MQ below (q_X10_compared dC dI cI cJ cZ h_p0 ad_p0 p0_places p0_steps p0_pastFirst p0_past p0_goings p0_rowSize p0_ways p0_hasField p0_fieldSize p0_faultNow p0_hasTree p0_treeSize p0_weightCount p0_roundCount p0_setCount p0_come p0_field post A) args s 0 0 A) (F0 m 62 ls [])) : ∀ (n : Nat) (v2 : Int32), w_X10_compared_L2 v1 p0_places p0_come p0_field post K n v2 → ∀ (H : Heap) (locs : List Loc) (ls : Array Slot), va_P (dC, dI) vwCl (wld_X10_compared cI cJ cZ h_p0 ad_p0 p0_places p0_steps p0_pastFirst p0_past p0_goings p0_rowSize p0_ways p0_hasField p0_fieldSize p0_faultNow p0_hasTree p0_treeSize p0_weightCount p0_roundCount p0_setCount p0_come p0_field) H → va_D A (wld_X10_compared cI cJ cZ h_p0 ad_p0 p0_places p0_steps p0_pastFirst p0_past p0_goings p0_rowSize p0_ways p0_hasField p0_fieldSize p0_faultNow p0_hasTree p0_treeSize p0_weightCount p0_roundCount p0_setCount p0_come p0_field) → va_S A s.heap H locs → lv_has ls 3 [(0, .ref h_p0), (1, .int v1), (2, .int v2)] → W p l e ({ frames := 0, cells := 0, slots := 0, locals := 0 }) s m args below meth c H locs 0 0 (MQ below (q_X10_compared dC dI cI cJ cZ h_p0 ad_p0 p0_places p0_steps p0_pastFirst p0_past p0_goings p0_rowSize p0_ways p0_hasField p0_fieldSize p0_faultNow p0_hasTree p0_treeSize p0_weightCount p0_roundCount p0_setCount p0_come p0_field post A) args s 0 0 A) (F0 m 2 ls []) := by
  obtain ⟨hx, hb, hr, hml, hown, hts, hlocks, hK, hA, n1, n2⟩ := id E0
  have iX10 : ∀ w ∈ u_ws RX10 TX10 50, w ∈ wsX10_compared := fun w h => List.mem_cons_of_mem _ (List.mem_append_right _ h)
  intro n
  induction n with
  | zero => intro v2 hw; exact hw.elim
  | succ n ih =>
    intro v2 hw H locs ls hP hD hS hl
    have hw : w_X10_compared_L2b v1 p0_places p0_come p0_field post K (w_X10_compared_L2 v1 p0_places p0_come p0_field post K n) v2 := hw
    unfold w_X10_compared_L2b at hw
    refine lv_iload_n hx hb dX10_compared_2 rfl (lv_at hl 2 rfl) ?_
    refine lv_aload_n hx hb dX10_compared_3 rfl (lv_at hl 0 rfl) ?_
    refine va_get (D := (dC, dI)) (ci := 10) (v := .int p0_places) (C := RX10) (T := TX10) (N := 50) hx hb hts iX10 hown hK hP 0 rfl rfl 0 (by decide) (hts (.fieldLink RX10 127 "NetHouseModel" "places" "I") (by decide +kernel)) (fun _ h9 => h9) rfl dX10_compared_4 ?_
    refine lv_icmp_ge (tgt := 62) hx hb dX10_compared_7 (by decide) (fun c1 => ?_) (fun c2 => ?_)
    · have hw := hw.1 c1
      exact hk _ _ _ _ hw hP hD hS (lv_sub hl [] rfl)
    · have hw := hw.2 c2
      refine lv_aload_n hx hb dX10_compared_10 rfl (lv_at hl 0 rfl) ?_
      refine va_get (D := (dC, dI)) (ci := 10) (v := .ref (ad_p0 26)) (C := RX10) (T := TX10) (N := 50) hx hb hts iX10 hown hK hP 0 rfl rfl 26 (by decide) (hts (.fieldLink RX10 63 "NetHouseModel" "field" "[I") (by decide +kernel)) (fun _ h9 => h9) rfl dX10_compared_11 ?_
      refine lv_bipush (v := 16) hx hb dX10_compared_14 (by decide) ?_
      refine lv_iload_n hx hb dX10_compared_16 rfl (lv_at hl 1 rfl) ?_
      refine lv_imul hx hb dX10_compared_17 ?_
      refine lv_iload_n hx hb dX10_compared_18 rfl (lv_at hl 2 rfl) ?_
      refine lv_iadd hx hb dX10_compared_19 ?_
      refine va_iald hx hb hK hP 2 0 rfl rfl hw.1 dX10_compared_20 ?_
      have hw := hw.2
      refine lv_aload_n hx hb dX10_compared_21 rfl (lv_at hl 0 rfl) ?_
      refine va_get (D := (dC, dI)) (ci := 10) (v := .ref (ad_p0 31)) (C := RX10) (T := TX10) (N := 50) hx hb hts iX10 hown hK hP 0 rfl rfl 31 (by decide) (hts (.fieldLink RX10 78 "NetHouseModel" "come" "[I") (by decide +kernel)) (fun _ h9 => h9) rfl dX10_compared_22 ?_
      refine lv_iload_n hx hb dX10_compared_25 rfl (lv_at hl 2 rfl) ?_
      refine va_iald hx hb hK hP 1 0 rfl rfl hw.1 dX10_compared_26 ?_
      have hw := hw.2
      refine lv_icmp_eq (tgt := 56) hx hb dX10_compared_27 (by decide) (fun c3 => ?_) (fun c4 => ?_)
      · have hw := hw.1 c3
        obtain ⟨x5, ex5⟩ : ∃ y : Int32, y = v2 + (1 : Int32) := ⟨_, rfl⟩
        have hw := hw x5 ex5
        refine lv_iinc (v := x5) (lv' := [(2, .int x5), (0, .ref h_p0), (1, .int v1)]) hx hb dX10_compared_56 hl (k := 2) rfl (by rw [ex5]; rfl) (by decide) rfl (fun ls hl => ?_)
        refine lv_goto (tgt := 2) hx hb dX10_compared_59 (by decide) ?_
        exact ih _ hw _ _ _ hP hD hS (lv_sub hl [1, 2, 0] rfl)
      · have hw := hw.2 c4
        refine lv_aload_n hx hb dX10_compared_30 rfl (lv_at hl 0 rfl) ?_
        refine va_get (D := (dC, dI)) (ci := 10) (v := .ref (ad_p0 26)) (C := RX10) (T := TX10) (N := 50) hx hb hts iX10 hown hK hP 0 rfl rfl 26 (by decide) (hts (.fieldLink RX10 63 "NetHouseModel" "field" "[I") (by decide +kernel)) (fun _ h9 => h9) rfl dX10_compared_31 ?_
        refine lv_bipush (v := 16) hx hb dX10_compared_34 (by decide) ?_
        refine lv_iload_n hx hb dX10_compared_36 rfl (lv_at hl 1 rfl) ?_
        refine lv_imul hx hb dX10_compared_37 ?_
        refine lv_iload_n hx hb dX10_compared_38 rfl (lv_at hl 2 rfl) ?_
        refine lv_iadd hx hb dX10_compared_39 ?_
        refine va_iald hx hb hK hP 2 0 rfl rfl hw.1 dX10_compared_40 ?_
        have hw := hw.2
        refine lv_aload_n hx hb dX10_compared_41 rfl (lv_at hl 0 rfl) ?_
        refine va_get (D := (dC, dI)) (ci := 10) (v := .ref (ad_p0 31)) (C := RX10) (T := TX10) (N := 50) hx hb hts iX10 hown hK hP 0 rfl rfl 31 (by decide) (hts (.fieldLink RX10 78 "NetHouseModel" "come" "[I") (by decide +kernel)) (fun _ h9 => h9) rfl dX10_compared_42 ?_
        refine lv_iload_n hx hb dX10_compared_45 rfl (lv_at hl 2 rfl) ?_
        refine va_iald hx hb hK hP 1 0 rfl rfl hw.1 dX10_compared_46 ?_
        have hw := hw.2
        refine lv_icmp_ge (tgt := 54) hx hb dX10_compared_47 (by decide) (fun c6 => ?_) (fun c7 => ?_)
        · have hw := hw.1 c6
          refine lv_iconst (v := 1) hx hb dX10_compared_54 (by decide) ?_
          exact x_iret (w1 := fun (u : Unit) => (wld_X10_compared cI cJ cZ h_p0 ad_p0 p0_places p0_steps p0_pastFirst p0_past p0_goings p0_rowSize p0_ways p0_hasField p0_fieldSize p0_faultNow p0_hasTree p0_treeSize p0_weightCount p0_roundCount p0_setCount p0_come p0_field)) hx hb hr hlocks () hw hP hD hS dX10_compared_55
        · have hw := hw.2 c7
          refine lv_iconst (v := -1) hx hb dX10_compared_50 (by decide) ?_
          refine lv_goto (tgt := 55) hx hb dX10_compared_51 (by decide) ?_
          exact x_iret (w1 := fun (u : Unit) => (wld_X10_compared cI cJ cZ h_p0 ad_p0 p0_places p0_steps p0_pastFirst p0_past p0_goings p0_rowSize p0_ways p0_hasField p0_fieldSize p0_faultNow p0_hasTree p0_treeSize p0_weightCount p0_roundCount p0_setCount p0_come p0_field)) hx hb hr hlocks () hw hP hD hS dX10_compared_55
set_option maxHeartbeats 4000000 in
set_option maxRecDepth 100000 in
theorem c_X10_compared {l : Launch} {dC : Nat → ClassId} {dI : Nat → Nat → Nat} {sz : Nat} {cI cJ cZ : ClassId} {h_p0 : Nat} {ad_p0 : Nat → Nat} {p0_places : Int32} {p0_steps : Int32} {p0_pastFirst : Int32} {p0_past : Int32} {p0_goings : Int32} {p0_rowSize : Int32} {p0_ways : Int32} {p0_hasField : Int32} {p0_fieldSize : Int32} {p0_faultNow : Int32} {p0_hasTree : Int32} {p0_treeSize : Int32} {p0_weightCount : Int32} {p0_roundCount : Int32} {p0_setCount : Int32} {p0_come : Nat → Int32} {p0_field : Nat → Int32} {a1 : Int32} {post : Int32 → Prop} (hw : w_X10_compared p0_places p0_come p0_field a1 post) : Met l yX10_compared wsX10_compared ({ frames := 0, cells := 0, slots := 0, locals := 0 }) (va_Pc [.ref h_p0, .int a1] (xPre (dC, dI) cI cJ cZ (wld_X10_compared cI cJ cZ h_p0 ad_p0 p0_places p0_steps p0_pastFirst p0_past p0_goings p0_rowSize p0_ways p0_hasField p0_fieldSize p0_faultNow p0_hasTree p0_treeSize p0_weightCount p0_roundCount p0_setCount p0_come p0_field) sz)) (q_X10_compared dC dI cI cJ cZ h_p0 ad_p0 p0_places p0_steps p0_pastFirst p0_past p0_goings p0_rowSize p0_ways p0_hasField p0_fieldSize p0_faultNow p0_hasTree p0_treeSize p0_weightCount p0_roundCount p0_setCount p0_come p0_field post (va_A (wld_X10_compared cI cJ cZ h_p0 ad_p0 p0_places p0_steps p0_pastFirst p0_past p0_goings p0_rowSize p0_ways p0_hasField p0_fieldSize p0_faultNow p0_hasTree p0_treeSize p0_weightCount p0_roundCount p0_setCount p0_come p0_field) sz)) 0 0 (va_A (wld_X10_compared cI cJ cZ h_p0 ad_p0 p0_places p0_steps p0_pastFirst p0_past p0_goings p0_rowSize p0_ways p0_hasField p0_fieldSize p0_faultNow p0_hasTree p0_treeSize p0_weightCount p0_roundCount p0_setCount p0_come p0_field) sz) := by
  refine x_met (cc := cX10_compared) (maxL := 3) (ret := (some .int)) (own := RX10) (Qc := fun A => (q_X10_compared dC dI cI cJ cZ h_p0 ad_p0 p0_places p0_steps p0_pastFirst p0_past p0_goings p0_rowSize p0_ways p0_hasField p0_fieldSize p0_faultNow p0_hasTree p0_treeSize p0_weightCount p0_roundCount p0_setCount p0_come p0_field post A)) (by decide) rfl rfl (Nat.le_of_ble_eq_true rfl) ?_
  intro p e s m args below meth c A ls E0 hP hD hS hl
  obtain ⟨hx, hb, hr, hml, hown, hts, hlocks, hK, hA, n1, n2⟩ := id E0
  have iX10 : ∀ w ∈ u_ws RX10 TX10 50, w ∈ wsX10_compared := fun w h => List.mem_cons_of_mem _ (List.mem_append_right _ h)
  have hS0 := hS
  have hl : lv_has ls 3 [(0, .ref h_p0), (1, .int a1)] := hl
  unfold w_X10_compared at hw
  obtain ⟨H, hH⟩ : ∃ H, H = s.heap := ⟨_, rfl⟩
  have hS : va_S A s.heap H [] := by rw [hH]; exact hS
  have hP : va_P (dC, dI) vwCl (wld_X10_compared cI cJ cZ h_p0 ad_p0 p0_places p0_steps p0_pastFirst p0_past p0_goings p0_rowSize p0_ways p0_hasField p0_fieldSize p0_faultNow p0_hasTree p0_treeSize p0_weightCount p0_roundCount p0_setCount p0_come p0_field) H := by rw [hH]; exact hP
  suffices hG : W p l e ({ frames := 0, cells := 0, slots := 0, locals := 0 }) s m args below meth c H [] 0 0 (MQ below (q_X10_compared dC dI cI cJ cZ h_p0 ad_p0 p0_places p0_steps p0_pastFirst p0_past p0_goings p0_rowSize p0_ways p0_hasField p0_fieldSize p0_faultNow p0_hasTree p0_treeSize p0_weightCount p0_roundCount p0_setCount p0_come p0_field post A) args s 0 0 A) (F0 m 0 ls []) by rw [hH] at hG; exact hG
  clear hH
  refine lv_iconst (v := 0) hx hb dX10_compared_0 (by decide) ?_
  refine lv_istore_n (lv' := [(2, .int (0 : Int32)), (0, .ref h_p0), (1, .int a1)]) hx hb dX10_compared_1 rfl hl (by decide) rfl (fun ls hl => ?_)
  obtain ⟨n8, hw⟩ := hw
  refine c_X10_compared_L2 (l := l)  E0 ?_ n8 _ hw _ _ _ hP hD hS (lv_sub hl [1, 2, 0] rfl)
  · intro v9 H locs ls hw hP hD hS hl
    have hP : va_P (dC, dI) vwCl (wld_X10_compared cI cJ cZ h_p0 ad_p0 p0_places p0_steps p0_pastFirst p0_past p0_goings p0_rowSize p0_ways p0_hasField p0_fieldSize p0_faultNow p0_hasTree p0_treeSize p0_weightCount p0_roundCount p0_setCount p0_come p0_field) H := hP
    have hD : va_D A (wld_X10_compared cI cJ cZ h_p0 ad_p0 p0_places p0_steps p0_pastFirst p0_past p0_goings p0_rowSize p0_ways p0_hasField p0_fieldSize p0_faultNow p0_hasTree p0_treeSize p0_weightCount p0_roundCount p0_setCount p0_come p0_field) := hD
    refine lv_iconst (v := 0) hx hb dX10_compared_62 (by decide) ?_
    exact x_iret (w1 := fun (u : Unit) => (wld_X10_compared cI cJ cZ h_p0 ad_p0 p0_places p0_steps p0_pastFirst p0_past p0_goings p0_rowSize p0_ways p0_hasField p0_fieldSize p0_faultNow p0_hasTree p0_treeSize p0_weightCount p0_roundCount p0_setCount p0_come p0_field)) hx hb hr hlocks () hw hP hD hS dX10_compared_63
abbrev wld_X10_sought (cI cJ cZ : ClassId) (h_p0 : Nat) (ad_p0 : Nat → Nat) (p0_places : Int32) (p0_steps : Int32) (p0_pastFirst : Int32) (p0_past : Int32) (p0_goings : Int32) (p0_rowSize : Int32) (p0_ways : Int32) (p0_hasField : Int32) (p0_fieldSize : Int32) (p0_faultNow : Int32) (p0_hasTree : Int32) (p0_treeSize : Int32) (p0_weightCount : Int32) (p0_roundCount : Int32) (p0_setCount : Int32) (p0_come : Nat → Int32) (p0_field : Nat → Int32) (p0_order : Nat → Int32) : va_W := [(h_p0, .inr (10, [.int p0_places, .int p0_steps, .ref (ad_p0 2), .ref (ad_p0 3), .ref (ad_p0 4), .ref (ad_p0 5), .ref (ad_p0 6), .ref (ad_p0 7), .ref (ad_p0 8), .ref (ad_p0 9), .ref (ad_p0 10), .ref (ad_p0 11), .ref (ad_p0 12), .ref (ad_p0 13), .ref (ad_p0 14), .int p0_pastFirst, .int p0_past, .int p0_goings, .int p0_rowSize, .ref (ad_p0 19), .ref (ad_p0 20), .int p0_ways, .ref (ad_p0 22), .ref (ad_p0 23), .int p0_hasField, .int p0_fieldSize, .ref (ad_p0 26), .ref (ad_p0 27), .ref (ad_p0 28), .ref (ad_p0 29), .ref (ad_p0 30), .ref (ad_p0 31), .ref (ad_p0 32), .int p0_faultNow, .int p0_hasTree, .int p0_treeSize, .ref (ad_p0 36), .ref (ad_p0 37), .ref (ad_p0 38), .ref (ad_p0 39), .ref (ad_p0 40), .ref (ad_p0 41), .ref (ad_p0 42), .int p0_weightCount, .ref (ad_p0 44), .int p0_roundCount, .ref (ad_p0 46), .int p0_setCount, .ref (ad_p0 48), .ref (ad_p0 49)])), ((ad_p0 31), .inl (cI, 16, .inl p0_come)), ((ad_p0 26), .inl (cI, 128000, .inl p0_field)), ((ad_p0 27), .inl (cI, 8000, .inl p0_order))]
abbrev q_X10_sought (dC : Nat → ClassId) (dI : Nat → Nat → Nat) (cI cJ cZ : ClassId) (h_p0 : Nat) (ad_p0 : Nat → Nat) (p0_places : Int32) (p0_steps : Int32) (p0_pastFirst : Int32) (p0_past : Int32) (p0_goings : Int32) (p0_rowSize : Int32) (p0_ways : Int32) (p0_hasField : Int32) (p0_fieldSize : Int32) (p0_faultNow : Int32) (p0_hasTree : Int32) (p0_treeSize : Int32) (p0_weightCount : Int32) (p0_roundCount : Int32) (p0_setCount : Int32) (p0_come : Nat → Int32) (p0_field : Nat → Int32) (p0_order : Nat → Int32) (post : Int32 → Prop) (A : Nat → Prop) : Array Value → State → Outcome → State → Prop := va_Qi (fun r (u : Unit) => post r ) (fun (u : Unit) t => xPost (dC, dI) A (wld_X10_sought cI cJ cZ h_p0 ad_p0 p0_places p0_steps p0_pastFirst p0_past p0_goings p0_rowSize p0_ways p0_hasField p0_fieldSize p0_faultNow p0_hasTree p0_treeSize p0_weightCount p0_roundCount p0_setCount p0_come p0_field p0_order) t) A
def w_X10_sought_L7b (p0_fieldSize : Int32) (p0_places : Int32) (p0_come : Nat → Int32) (p0_field : Nat → Int32) (p0_order : Nat → Int32) (post : Int32 → Prop) (K : (Int32) → (Int32) → Prop) (rec : (Int32) → (Int32) → Prop) (v1 : Int32) (v2 : Int32) : Prop :=
    (v2 ≤ v1 →
      K v1 v2) ∧
    (¬ v2 ≤ v1 →
      ∀ x3 : Int32, x3 = ((v1 + v2) / (2 : Int32)) →
      vp_in x3 8000 ∧
      w_X10_compared p0_places p0_come p0_field (p0_order x3.toNatClampNeg) (fun r4 =>
      (0 ≤ r4 →
        rec v1 x3) ∧
      (¬ 0 ≤ r4 →
        ∀ x7 : Int32, x7 = (x3 + (1 : Int32)) →
        rec x7 v2)))
def w_X10_sought_L7 (p0_fieldSize : Int32) (p0_places : Int32) (p0_come : Nat → Int32) (p0_field : Nat → Int32) (p0_order : Nat → Int32) (post : Int32 → Prop) (K : (Int32) → (Int32) → Prop) : Nat → (Int32) → (Int32) → Prop
  | 0, _, _ => False
  | n + 1, v1, v2 => w_X10_sought_L7b p0_fieldSize p0_places p0_come p0_field p0_order post K (w_X10_sought_L7 p0_fieldSize p0_places p0_come p0_field p0_order post K n) v1 v2
def w_X10_sought (p0_fieldSize : Int32) (p0_places : Int32) (p0_come : Nat → Int32) (p0_field : Nat → Int32) (p0_order : Nat → Int32) (post : Int32 → Prop) : Prop :=
  ∃ n : Nat, w_X10_sought_L7 p0_fieldSize p0_places p0_come p0_field p0_order post (fun v9 v10 =>
      (post v9)) n (0 : Int32) p0_fieldSize
set_option maxHeartbeats 4000000 in
set_option maxRecDepth 100000 in
theorem c_X10_sought_L7 {p : Program} {l : Launch} {e : Env} {s : State} {m : MethodId} {args : Array Value} {below : List Frame} {meth : Method} {c : Code} {dC : Nat → ClassId} {dI : Nat → Nat → Nat} {A : Nat → Prop} {cI cJ cZ : ClassId} {h_p0 : Nat} {ad_p0 : Nat → Nat} {p0_places : Int32} {p0_steps : Int32} {p0_pastFirst : Int32} {p0_past : Int32} {p0_goings : Int32} {p0_rowSize : Int32} {p0_ways : Int32} {p0_hasField : Int32} {p0_fieldSize : Int32} {p0_faultNow : Int32} {p0_hasTree : Int32} {p0_treeSize : Int32} {p0_weightCount : Int32} {p0_roundCount : Int32} {p0_setCount : Int32} {p0_come : Nat → Int32} {p0_field : Nat → Int32} {p0_order : Nat → Int32}  {post : Int32 → Prop} {K : (Int32) → (Int32) → Prop} (E0 : xEnv p s m args meth c cX10_sought (some .int) 4 RX10 wsX10_sought (dC, dI) cI cJ cZ A) (hk : ∀ (v1 : Int32) (v2 : Int32) (H : Heap) (locs : List Loc) (ls : Array Slot), K v1 v2 → va_P (dC, dI) vwCl (wld_X10_sought cI cJ cZ h_p0 ad_p0 p0_places p0_steps p0_pastFirst p0_past p0_goings p0_rowSize p0_ways p0_hasField p0_fieldSize p0_faultNow p0_hasTree p0_treeSize p0_weightCount p0_roundCount p0_setCount p0_come p0_field p0_order) H → va_D A (wld_X10_sought cI cJ cZ h_p0 ad_p0 p0_places p0_steps p0_pastFirst p0_past p0_goings p0_rowSize p0_ways p0_hasField p0_fieldSize p0_faultNow p0_hasTree p0_treeSize p0_weightCount p0_roundCount p0_setCount p0_come p0_field p0_order) → va_S A s.heap H locs → lv_has ls 4 [(1, .int v1)] → W p l e ({ frames := 1, cells := 0, slots := 0, locals := 22 }) s m args below meth c H locs 0 0 (MQ below (q_X10_sought dC dI cI cJ cZ h_p0 ad_p0 p0_places p0_steps p0_pastFirst p0_past p0_goings p0_rowSize p0_ways p0_hasField p0_fieldSize p0_faultNow p0_hasTree p0_treeSize p0_weightCount p0_roundCount p0_setCount p0_come p0_field p0_order post A) args s 0 0 A) (F0 m 43 ls [])) : ∀ (n : Nat) (v1 : Int32) (v2 : Int32), w_X10_sought_L7 p0_fieldSize p0_places p0_come p0_field p0_order post K n v1 v2 → ∀ (H : Heap) (locs : List Loc) (ls : Array Slot), va_P (dC, dI) vwCl (wld_X10_sought cI cJ cZ h_p0 ad_p0 p0_places p0_steps p0_pastFirst p0_past p0_goings p0_rowSize p0_ways p0_hasField p0_fieldSize p0_faultNow p0_hasTree p0_treeSize p0_weightCount p0_roundCount p0_setCount p0_come p0_field p0_order) H → va_D A (wld_X10_sought cI cJ cZ h_p0 ad_p0 p0_places p0_steps p0_pastFirst p0_past p0_goings p0_rowSize p0_ways p0_hasField p0_fieldSize p0_faultNow p0_hasTree p0_treeSize p0_weightCount p0_roundCount p0_setCount p0_come p0_field p0_order) → va_S A s.heap H locs → lv_has ls 4 [(0, .ref h_p0), (1, .int v1), (2, .int v2)] → W p l e ({ frames := 1, cells := 0, slots := 0, locals := 22 }) s m args below meth c H locs 0 0 (MQ below (q_X10_sought dC dI cI cJ cZ h_p0 ad_p0 p0_places p0_steps p0_pastFirst p0_past p0_goings p0_rowSize p0_ways p0_hasField p0_fieldSize p0_faultNow p0_hasTree p0_treeSize p0_weightCount p0_roundCount p0_setCount p0_come p0_field p0_order post A) args s 0 0 A) (F0 m 7 ls []) := by
  obtain ⟨hx, hb, hr, hml, hown, hts, hlocks, hK, hA, n1, n2⟩ := id E0
  have iX10 : ∀ w ∈ u_ws RX10 TX10 50, w ∈ wsX10_sought := fun w h => List.mem_cons_of_mem _ (List.mem_append_right _ h)
  intro n
  induction n with
  | zero => intro v1 v2 hw; exact hw.elim
  | succ n ih =>
    intro v1 v2 hw H locs ls hP hD hS hl
    have hw : w_X10_sought_L7b p0_fieldSize p0_places p0_come p0_field p0_order post K (w_X10_sought_L7 p0_fieldSize p0_places p0_come p0_field p0_order post K n) v1 v2 := hw
    unfold w_X10_sought_L7b at hw
    refine lv_iload_n hx hb dX10_sought_7 rfl (lv_at hl 1 rfl) ?_
    refine lv_iload_n hx hb dX10_sought_8 rfl (lv_at hl 2 rfl) ?_
    refine lv_icmp_ge (tgt := 43) hx hb dX10_sought_9 (by decide) (fun c1 => ?_) (fun c2 => ?_)
    · have hw := hw.1 c1
      exact hk _ _ _ _ _ hw hP hD hS (lv_sub hl [1] rfl)
    · have hw := hw.2 c2
      refine lv_iload_n hx hb dX10_sought_12 rfl (lv_at hl 1 rfl) ?_
      refine lv_iload_n hx hb dX10_sought_13 rfl (lv_at hl 2 rfl) ?_
      refine lv_iadd hx hb dX10_sought_14 ?_
      refine lv_iconst (v := 2) hx hb dX10_sought_15 (by decide) ?_
      refine lv_idiv hx hb dX10_sought_16 (by decide) ?_
      refine lv_topi (fun x3 ex3 => ?_)
      have hw := hw x3 ex3
      refine lv_istore_n (lv' := [(3, .int x3), (0, .ref h_p0), (1, .int v1), (2, .int v2)]) hx hb dX10_sought_17 rfl hl (by decide) rfl (fun ls hl => ?_)
      refine lv_aload_n hx hb dX10_sought_18 rfl (lv_at hl 1 rfl) ?_
      refine lv_aload_n hx hb dX10_sought_19 rfl (lv_at hl 1 rfl) ?_
      refine va_get (D := (dC, dI)) (ci := 10) (v := .ref (ad_p0 27)) (C := RX10) (T := TX10) (N := 50) hx hb hts iX10 hown hK hP 0 rfl rfl 27 (by decide) (hts (.fieldLink RX10 66 "NetHouseModel" "order" "[I") (by decide +kernel)) (fun _ h9 => h9) rfl dX10_sought_20 ?_
      refine lv_iload_n hx hb dX10_sought_23 rfl (lv_at hl 0 rfl) ?_
      refine va_iald hx hb hK hP 3 0 rfl rfl hw.1 dX10_sought_24 ?_
      have hw := hw.2
      obtain ⟨hPc, hDc⟩ := x_sub (wc := (wld_X10_compared cI cJ cZ h_p0 ad_p0 p0_places p0_steps p0_pastFirst p0_past p0_goings p0_rowSize p0_ways p0_hasField p0_fieldSize p0_faultNow p0_hasTree p0_treeSize p0_weightCount p0_roundCount p0_setCount p0_come p0_field)) hP hD [0, 1, 2] (n := 4) rfl rfl (by decide +kernel)
      refine x_calli (ws' := fun (u : Unit) => (wld_X10_sought cI cJ cZ h_p0 ad_p0 p0_places p0_steps p0_pastFirst p0_past p0_goings p0_rowSize p0_ways p0_hasField p0_fieldSize p0_faultNow p0_hasTree p0_treeSize p0_weightCount p0_roundCount p0_setCount p0_come p0_field p0_order)) hP hD hS hA [0, 1, 2] [3] [1, 2, 3, 0] (n := 4) (k := 3) rfl (fun _ => rfl) rfl (by decide +kernel) (fun _ => rfl) (va_runV (As := [.int (p0_order x3.toNatClampNeg)]) (rest := []) ⟨hx, hb, hml, hown, hts⟩ (c_X10_compared (l := l) (dC := dC) (dI := dI) (cI := cI) (cJ := cJ) (cZ := cZ) (sz := H.size) (h_p0 := h_p0) (ad_p0 := ad_p0) (p0_places := p0_places) (p0_steps := p0_steps) (p0_pastFirst := p0_pastFirst) (p0_past := p0_past) (p0_goings := p0_goings) (p0_rowSize := p0_rowSize) (p0_ways := p0_ways) (p0_hasField := p0_hasField) (p0_fieldSize := p0_fieldSize) (p0_faultNow := p0_faultNow) (p0_hasTree := p0_hasTree) (p0_treeSize := p0_treeSize) (p0_weightCount := p0_weightCount) (p0_roundCount := p0_roundCount) (p0_setCount := p0_setCount) (p0_come := p0_come) (p0_field := p0_field) hw) (cwV 1 hts gX10_sought_X10_compared rfl rfl rfl (by decide +kernel) ⟨Nat.le_of_ble_eq_true rfl, Nat.le_of_ble_eq_true rfl⟩) ⟨xPre_blind, va_recv hK hP (ci := 10) (q0 := 0) rfl rfl, xPre_at hK hPc hDc n1 n2⟩ rfl rfl hl.1 rfl (lv_room (Nat.le_of_ble_eq_true rfl)) dX10_sought_25 ⟨Nat.zero_le _, Nat.zero_le _⟩) (fun r4 u H locs hw hP hD hS => ?_)
      try dsimp only at hw
      have hP : va_P (dC, dI) vwCl (wld_X10_sought cI cJ cZ h_p0 ad_p0 p0_places p0_steps p0_pastFirst p0_past p0_goings p0_rowSize p0_ways p0_hasField p0_fieldSize p0_faultNow p0_hasTree p0_treeSize p0_weightCount p0_roundCount p0_setCount p0_come p0_field p0_order) H := hP
      have hD : va_D A (wld_X10_sought cI cJ cZ h_p0 ad_p0 p0_places p0_steps p0_pastFirst p0_past p0_goings p0_rowSize p0_ways p0_hasField p0_fieldSize p0_faultNow p0_hasTree p0_treeSize p0_weightCount p0_roundCount p0_setCount p0_come p0_field p0_order) := hD
      refine lv_if_ge (tgt := 38) hx hb dX10_sought_28 (by decide) (fun c5 => ?_) (fun c6 => ?_)
      · have hw := hw.1 c5
        refine lv_iload_n hx hb dX10_sought_38 rfl (lv_at hl 0 rfl) ?_
        refine lv_istore_n (lv' := [(2, .int x3), (3, .int x3), (0, .ref h_p0), (1, .int v1)]) hx hb dX10_sought_39 rfl hl (by decide) rfl (fun ls hl => ?_)
        refine lv_goto (tgt := 7) hx hb dX10_sought_40 (by decide) ?_
        exact ih _ _ hw _ _ _ hP hD hS (lv_sub hl [2, 3, 0] rfl)
      · have hw := hw.2 c6
        refine lv_iload_n hx hb dX10_sought_31 rfl (lv_at hl 0 rfl) ?_
        refine lv_iconst (v := 1) hx hb dX10_sought_32 (by decide) ?_
        refine lv_iadd hx hb dX10_sought_33 ?_
        refine lv_topi (fun x7 ex7 => ?_)
        have hw := hw x7 ex7
        refine lv_istore_n (lv' := [(1, .int x7), (3, .int x3), (0, .ref h_p0), (2, .int v2)]) hx hb dX10_sought_34 rfl hl (by decide) rfl (fun ls hl => ?_)
        refine lv_goto (tgt := 40) hx hb dX10_sought_35 (by decide) ?_
        refine lv_goto (tgt := 7) hx hb dX10_sought_40 (by decide) ?_
        exact ih _ _ hw _ _ _ hP hD hS (lv_sub hl [2, 0, 3] rfl)
set_option maxHeartbeats 4000000 in
set_option maxRecDepth 100000 in
theorem c_X10_sought {l : Launch} {dC : Nat → ClassId} {dI : Nat → Nat → Nat} {sz : Nat} {cI cJ cZ : ClassId} {h_p0 : Nat} {ad_p0 : Nat → Nat} {p0_places : Int32} {p0_steps : Int32} {p0_pastFirst : Int32} {p0_past : Int32} {p0_goings : Int32} {p0_rowSize : Int32} {p0_ways : Int32} {p0_hasField : Int32} {p0_fieldSize : Int32} {p0_faultNow : Int32} {p0_hasTree : Int32} {p0_treeSize : Int32} {p0_weightCount : Int32} {p0_roundCount : Int32} {p0_setCount : Int32} {p0_come : Nat → Int32} {p0_field : Nat → Int32} {p0_order : Nat → Int32}  {post : Int32 → Prop} (hw : w_X10_sought p0_fieldSize p0_places p0_come p0_field p0_order post) : Met l yX10_sought wsX10_sought ({ frames := 1, cells := 0, slots := 0, locals := 22 }) (va_Pc [.ref h_p0] (xPre (dC, dI) cI cJ cZ (wld_X10_sought cI cJ cZ h_p0 ad_p0 p0_places p0_steps p0_pastFirst p0_past p0_goings p0_rowSize p0_ways p0_hasField p0_fieldSize p0_faultNow p0_hasTree p0_treeSize p0_weightCount p0_roundCount p0_setCount p0_come p0_field p0_order) sz)) (q_X10_sought dC dI cI cJ cZ h_p0 ad_p0 p0_places p0_steps p0_pastFirst p0_past p0_goings p0_rowSize p0_ways p0_hasField p0_fieldSize p0_faultNow p0_hasTree p0_treeSize p0_weightCount p0_roundCount p0_setCount p0_come p0_field p0_order post (va_A (wld_X10_sought cI cJ cZ h_p0 ad_p0 p0_places p0_steps p0_pastFirst p0_past p0_goings p0_rowSize p0_ways p0_hasField p0_fieldSize p0_faultNow p0_hasTree p0_treeSize p0_weightCount p0_roundCount p0_setCount p0_come p0_field p0_order) sz)) 0 0 (va_A (wld_X10_sought cI cJ cZ h_p0 ad_p0 p0_places p0_steps p0_pastFirst p0_past p0_goings p0_rowSize p0_ways p0_hasField p0_fieldSize p0_faultNow p0_hasTree p0_treeSize p0_weightCount p0_roundCount p0_setCount p0_come p0_field p0_order) sz) := by
  refine x_met (cc := cX10_sought) (maxL := 4) (ret := (some .int)) (own := RX10) (Qc := fun A => (q_X10_sought dC dI cI cJ cZ h_p0 ad_p0 p0_places p0_steps p0_pastFirst p0_past p0_goings p0_rowSize p0_ways p0_hasField p0_fieldSize p0_faultNow p0_hasTree p0_treeSize p0_weightCount p0_roundCount p0_setCount p0_come p0_field p0_order post A)) (by decide) rfl rfl (Nat.le_of_ble_eq_true rfl) ?_
  intro p e s m args below meth c A ls E0 hP hD hS hl
  obtain ⟨hx, hb, hr, hml, hown, hts, hlocks, hK, hA, n1, n2⟩ := id E0
  have iX10 : ∀ w ∈ u_ws RX10 TX10 50, w ∈ wsX10_sought := fun w h => List.mem_cons_of_mem _ (List.mem_append_right _ h)
  have hS0 := hS
  have hl : lv_has ls 4 [(0, .ref h_p0)] := hl
  unfold w_X10_sought at hw
  obtain ⟨H, hH⟩ : ∃ H, H = s.heap := ⟨_, rfl⟩
  have hS : va_S A s.heap H [] := by rw [hH]; exact hS
  have hP : va_P (dC, dI) vwCl (wld_X10_sought cI cJ cZ h_p0 ad_p0 p0_places p0_steps p0_pastFirst p0_past p0_goings p0_rowSize p0_ways p0_hasField p0_fieldSize p0_faultNow p0_hasTree p0_treeSize p0_weightCount p0_roundCount p0_setCount p0_come p0_field p0_order) H := by rw [hH]; exact hP
  suffices hG : W p l e ({ frames := 1, cells := 0, slots := 0, locals := 22 }) s m args below meth c H [] 0 0 (MQ below (q_X10_sought dC dI cI cJ cZ h_p0 ad_p0 p0_places p0_steps p0_pastFirst p0_past p0_goings p0_rowSize p0_ways p0_hasField p0_fieldSize p0_faultNow p0_hasTree p0_treeSize p0_weightCount p0_roundCount p0_setCount p0_come p0_field p0_order post A) args s 0 0 A) (F0 m 0 ls []) by rw [hH] at hG; exact hG
  clear hH
  refine lv_iconst (v := 0) hx hb dX10_sought_0 (by decide) ?_
  refine lv_istore_n (lv' := [(1, .int (0 : Int32)), (0, .ref h_p0)]) hx hb dX10_sought_1 rfl hl (by decide) rfl (fun ls hl => ?_)
  refine lv_aload_n hx hb dX10_sought_2 rfl (lv_at hl 1 rfl) ?_
  refine va_get (D := (dC, dI)) (ci := 10) (v := .int p0_fieldSize) (C := RX10) (T := TX10) (N := 50) hx hb hts iX10 hown hK hP 0 rfl rfl 25 (by decide) (hts (.fieldLink RX10 124 "NetHouseModel" "fieldSize" "I") (by decide +kernel)) (fun _ h9 => h9) rfl dX10_sought_3 ?_
  refine lv_istore_n (lv' := [(2, .int p0_fieldSize), (1, .int (0 : Int32)), (0, .ref h_p0)]) hx hb dX10_sought_6 rfl hl (by decide) rfl (fun ls hl => ?_)
  obtain ⟨n8, hw⟩ := hw
  refine c_X10_sought_L7 (l := l)  E0 ?_ n8 _ _ hw _ _ _ hP hD hS (lv_sub hl [2, 1, 0] rfl)
  · intro v9 v10 H locs ls hw hP hD hS hl
    have hP : va_P (dC, dI) vwCl (wld_X10_sought cI cJ cZ h_p0 ad_p0 p0_places p0_steps p0_pastFirst p0_past p0_goings p0_rowSize p0_ways p0_hasField p0_fieldSize p0_faultNow p0_hasTree p0_treeSize p0_weightCount p0_roundCount p0_setCount p0_come p0_field p0_order) H := hP
    have hD : va_D A (wld_X10_sought cI cJ cZ h_p0 ad_p0 p0_places p0_steps p0_pastFirst p0_past p0_goings p0_rowSize p0_ways p0_hasField p0_fieldSize p0_faultNow p0_hasTree p0_treeSize p0_weightCount p0_roundCount p0_setCount p0_come p0_field p0_order) := hD
    refine lv_iload_n hx hb dX10_sought_43 rfl (lv_at hl 0 rfl) ?_
    exact x_iret (w1 := fun (u : Unit) => (wld_X10_sought cI cJ cZ h_p0 ad_p0 p0_places p0_steps p0_pastFirst p0_past p0_goings p0_rowSize p0_ways p0_hasField p0_fieldSize p0_faultNow p0_hasTree p0_treeSize p0_weightCount p0_roundCount p0_setCount p0_come p0_field p0_order)) hx hb hr hlocks () hw hP hD hS dX10_sought_44
abbrev wld_X10_numberOf (cI cJ cZ : ClassId) (h_p0 : Nat) (ad_p0 : Nat → Nat) (p0_places : Int32) (p0_steps : Int32) (p0_pastFirst : Int32) (p0_past : Int32) (p0_goings : Int32) (p0_rowSize : Int32) (p0_ways : Int32) (p0_hasField : Int32) (p0_fieldSize : Int32) (p0_faultNow : Int32) (p0_hasTree : Int32) (p0_treeSize : Int32) (p0_weightCount : Int32) (p0_roundCount : Int32) (p0_setCount : Int32) (p0_come : Nat → Int32) (p0_field : Nat → Int32) (p0_order : Nat → Int32) : va_W := [(h_p0, .inr (10, [.int p0_places, .int p0_steps, .ref (ad_p0 2), .ref (ad_p0 3), .ref (ad_p0 4), .ref (ad_p0 5), .ref (ad_p0 6), .ref (ad_p0 7), .ref (ad_p0 8), .ref (ad_p0 9), .ref (ad_p0 10), .ref (ad_p0 11), .ref (ad_p0 12), .ref (ad_p0 13), .ref (ad_p0 14), .int p0_pastFirst, .int p0_past, .int p0_goings, .int p0_rowSize, .ref (ad_p0 19), .ref (ad_p0 20), .int p0_ways, .ref (ad_p0 22), .ref (ad_p0 23), .int p0_hasField, .int p0_fieldSize, .ref (ad_p0 26), .ref (ad_p0 27), .ref (ad_p0 28), .ref (ad_p0 29), .ref (ad_p0 30), .ref (ad_p0 31), .ref (ad_p0 32), .int p0_faultNow, .int p0_hasTree, .int p0_treeSize, .ref (ad_p0 36), .ref (ad_p0 37), .ref (ad_p0 38), .ref (ad_p0 39), .ref (ad_p0 40), .ref (ad_p0 41), .ref (ad_p0 42), .int p0_weightCount, .ref (ad_p0 44), .int p0_roundCount, .ref (ad_p0 46), .int p0_setCount, .ref (ad_p0 48), .ref (ad_p0 49)])), ((ad_p0 31), .inl (cI, 16, .inl p0_come)), ((ad_p0 26), .inl (cI, 128000, .inl p0_field)), ((ad_p0 27), .inl (cI, 8000, .inl p0_order))]
abbrev q_X10_numberOf (dC : Nat → ClassId) (dI : Nat → Nat → Nat) (cI cJ cZ : ClassId) (h_p0 : Nat) (ad_p0 : Nat → Nat) (p0_places : Int32) (p0_steps : Int32) (p0_pastFirst : Int32) (p0_past : Int32) (p0_goings : Int32) (p0_rowSize : Int32) (p0_ways : Int32) (p0_hasField : Int32) (p0_fieldSize : Int32) (p0_faultNow : Int32) (p0_hasTree : Int32) (p0_treeSize : Int32) (p0_weightCount : Int32) (p0_roundCount : Int32) (p0_setCount : Int32) (p0_come : Nat → Int32) (p0_field : Nat → Int32) (p0_order : Nat → Int32) (post : Int32 → Prop) (A : Nat → Prop) : Array Value → State → Outcome → State → Prop := va_Qi (fun r (u : Unit) => post r ) (fun (u : Unit) t => xPost (dC, dI) A (wld_X10_numberOf cI cJ cZ h_p0 ad_p0 p0_places p0_steps p0_pastFirst p0_past p0_goings p0_rowSize p0_ways p0_hasField p0_fieldSize p0_faultNow p0_hasTree p0_treeSize p0_weightCount p0_roundCount p0_setCount p0_come p0_field p0_order) t) A
def w_X10_numberOf (p0_fieldSize : Int32) (p0_places : Int32) (p0_come : Nat → Int32) (p0_field : Nat → Int32) (p0_order : Nat → Int32) (post : Int32 → Prop) : Prop :=
  w_X10_sought p0_fieldSize p0_places p0_come p0_field p0_order (fun r1 =>
  (p0_fieldSize ≤ r1 →
    (post (-2000000005 : Int32))) ∧
  (¬ p0_fieldSize ≤ r1 →
    vp_in r1 8000 ∧
    w_X10_compared p0_places p0_come p0_field (p0_order r1.toNatClampNeg) (fun r4 =>
    (¬ r4 = 0 →
      (post (-2000000005 : Int32))) ∧
    (r4 = 0 →
      vp_in r1 8000 ∧
      (post (p0_order r1.toNatClampNeg))))))
set_option maxHeartbeats 4000000 in
set_option maxRecDepth 100000 in
theorem c_X10_numberOf {l : Launch} {dC : Nat → ClassId} {dI : Nat → Nat → Nat} {sz : Nat} {cI cJ cZ : ClassId} {h_p0 : Nat} {ad_p0 : Nat → Nat} {p0_places : Int32} {p0_steps : Int32} {p0_pastFirst : Int32} {p0_past : Int32} {p0_goings : Int32} {p0_rowSize : Int32} {p0_ways : Int32} {p0_hasField : Int32} {p0_fieldSize : Int32} {p0_faultNow : Int32} {p0_hasTree : Int32} {p0_treeSize : Int32} {p0_weightCount : Int32} {p0_roundCount : Int32} {p0_setCount : Int32} {p0_come : Nat → Int32} {p0_field : Nat → Int32} {p0_order : Nat → Int32}  {post : Int32 → Prop} (hw : w_X10_numberOf p0_fieldSize p0_places p0_come p0_field p0_order post) : Met l yX10_numberOf wsX10_numberOf ({ frames := 2, cells := 0, slots := 0, locals := 45 }) (va_Pc [.ref h_p0] (xPre (dC, dI) cI cJ cZ (wld_X10_numberOf cI cJ cZ h_p0 ad_p0 p0_places p0_steps p0_pastFirst p0_past p0_goings p0_rowSize p0_ways p0_hasField p0_fieldSize p0_faultNow p0_hasTree p0_treeSize p0_weightCount p0_roundCount p0_setCount p0_come p0_field p0_order) sz)) (q_X10_numberOf dC dI cI cJ cZ h_p0 ad_p0 p0_places p0_steps p0_pastFirst p0_past p0_goings p0_rowSize p0_ways p0_hasField p0_fieldSize p0_faultNow p0_hasTree p0_treeSize p0_weightCount p0_roundCount p0_setCount p0_come p0_field p0_order post (va_A (wld_X10_numberOf cI cJ cZ h_p0 ad_p0 p0_places p0_steps p0_pastFirst p0_past p0_goings p0_rowSize p0_ways p0_hasField p0_fieldSize p0_faultNow p0_hasTree p0_treeSize p0_weightCount p0_roundCount p0_setCount p0_come p0_field p0_order) sz)) 0 0 (va_A (wld_X10_numberOf cI cJ cZ h_p0 ad_p0 p0_places p0_steps p0_pastFirst p0_past p0_goings p0_rowSize p0_ways p0_hasField p0_fieldSize p0_faultNow p0_hasTree p0_treeSize p0_weightCount p0_roundCount p0_setCount p0_come p0_field p0_order) sz) := by
  refine x_met (cc := cX10_numberOf) (maxL := 2) (ret := (some .int)) (own := RX10) (Qc := fun A => (q_X10_numberOf dC dI cI cJ cZ h_p0 ad_p0 p0_places p0_steps p0_pastFirst p0_past p0_goings p0_rowSize p0_ways p0_hasField p0_fieldSize p0_faultNow p0_hasTree p0_treeSize p0_weightCount p0_roundCount p0_setCount p0_come p0_field p0_order post A)) (by decide) rfl rfl (Nat.le_of_ble_eq_true rfl) ?_
  intro p e s m args below meth c A ls E0 hP hD hS hl
  obtain ⟨hx, hb, hr, hml, hown, hts, hlocks, hK, hA, n1, n2⟩ := id E0
  have iX10 : ∀ w ∈ u_ws RX10 TX10 50, w ∈ wsX10_numberOf := fun w h => List.mem_cons_of_mem _ (List.mem_append_right _ h)
  have hS0 := hS
  have hl : lv_has ls 2 [(0, .ref h_p0)] := hl
  unfold w_X10_numberOf at hw
  obtain ⟨H, hH⟩ : ∃ H, H = s.heap := ⟨_, rfl⟩
  have hS : va_S A s.heap H [] := by rw [hH]; exact hS
  have hP : va_P (dC, dI) vwCl (wld_X10_numberOf cI cJ cZ h_p0 ad_p0 p0_places p0_steps p0_pastFirst p0_past p0_goings p0_rowSize p0_ways p0_hasField p0_fieldSize p0_faultNow p0_hasTree p0_treeSize p0_weightCount p0_roundCount p0_setCount p0_come p0_field p0_order) H := by rw [hH]; exact hP
  suffices hG : W p l e ({ frames := 2, cells := 0, slots := 0, locals := 45 }) s m args below meth c H [] 0 0 (MQ below (q_X10_numberOf dC dI cI cJ cZ h_p0 ad_p0 p0_places p0_steps p0_pastFirst p0_past p0_goings p0_rowSize p0_ways p0_hasField p0_fieldSize p0_faultNow p0_hasTree p0_treeSize p0_weightCount p0_roundCount p0_setCount p0_come p0_field p0_order post A) args s 0 0 A) (F0 m 0 ls []) by rw [hH] at hG; exact hG
  clear hH
  refine lv_aload_n hx hb dX10_numberOf_0 rfl (lv_at hl 0 rfl) ?_
  obtain ⟨hPc, hDc⟩ := x_sub (wc := (wld_X10_sought cI cJ cZ h_p0 ad_p0 p0_places p0_steps p0_pastFirst p0_past p0_goings p0_rowSize p0_ways p0_hasField p0_fieldSize p0_faultNow p0_hasTree p0_treeSize p0_weightCount p0_roundCount p0_setCount p0_come p0_field p0_order)) hP hD [0, 1, 2, 3] (n := 4) rfl rfl (by decide +kernel)
  refine x_calli (ws' := fun (u : Unit) => (wld_X10_numberOf cI cJ cZ h_p0 ad_p0 p0_places p0_steps p0_pastFirst p0_past p0_goings p0_rowSize p0_ways p0_hasField p0_fieldSize p0_faultNow p0_hasTree p0_treeSize p0_weightCount p0_roundCount p0_setCount p0_come p0_field p0_order)) hP hD hS hA [0, 1, 2, 3] [] [0, 1, 2, 3] (n := 4) (k := 4) rfl (fun _ => rfl) rfl (by decide +kernel) (fun _ => rfl) (va_runV (As := []) (rest := []) ⟨hx, hb, hml, hown, hts⟩ (c_X10_sought (l := l) (dC := dC) (dI := dI) (cI := cI) (cJ := cJ) (cZ := cZ) (sz := H.size) (h_p0 := h_p0) (ad_p0 := ad_p0) (p0_places := p0_places) (p0_steps := p0_steps) (p0_pastFirst := p0_pastFirst) (p0_past := p0_past) (p0_goings := p0_goings) (p0_rowSize := p0_rowSize) (p0_ways := p0_ways) (p0_hasField := p0_hasField) (p0_fieldSize := p0_fieldSize) (p0_faultNow := p0_faultNow) (p0_hasTree := p0_hasTree) (p0_treeSize := p0_treeSize) (p0_weightCount := p0_weightCount) (p0_roundCount := p0_roundCount) (p0_setCount := p0_setCount) (p0_come := p0_come) (p0_field := p0_field) (p0_order := p0_order) hw) (cwV 0 hts gX10_numberOf_X10_sought rfl rfl rfl (by decide +kernel) ⟨Nat.le_of_ble_eq_true rfl, Nat.le_of_ble_eq_true rfl⟩) ⟨xPre_blind, va_recv hK hP (ci := 10) (q0 := 0) rfl rfl, xPre_at hK hPc hDc n1 n2⟩ rfl rfl hl.1 rfl (lv_room (Nat.le_of_ble_eq_true rfl)) dX10_numberOf_1 ⟨Nat.zero_le _, Nat.zero_le _⟩) (fun r1 u H locs hw hP hD hS => ?_)
  try dsimp only at hw
  have hP : va_P (dC, dI) vwCl (wld_X10_numberOf cI cJ cZ h_p0 ad_p0 p0_places p0_steps p0_pastFirst p0_past p0_goings p0_rowSize p0_ways p0_hasField p0_fieldSize p0_faultNow p0_hasTree p0_treeSize p0_weightCount p0_roundCount p0_setCount p0_come p0_field p0_order) H := hP
  have hD : va_D A (wld_X10_numberOf cI cJ cZ h_p0 ad_p0 p0_places p0_steps p0_pastFirst p0_past p0_goings p0_rowSize p0_ways p0_hasField p0_fieldSize p0_faultNow p0_hasTree p0_treeSize p0_weightCount p0_roundCount p0_setCount p0_come p0_field p0_order) := hD
  refine lv_istore_n (lv' := [(1, .int r1), (0, .ref h_p0)]) hx hb dX10_numberOf_4 rfl hl (by decide) rfl (fun ls hl => ?_)
  refine lv_iload_n hx hb dX10_numberOf_5 rfl (lv_at hl 0 rfl) ?_
  refine lv_aload_n hx hb dX10_numberOf_6 rfl (lv_at hl 1 rfl) ?_
  refine va_get (D := (dC, dI)) (ci := 10) (v := .int p0_fieldSize) (C := RX10) (T := TX10) (N := 50) hx hb hts iX10 hown hK hP 0 rfl rfl 25 (by decide) (hts (.fieldLink RX10 124 "NetHouseModel" "fieldSize" "I") (by decide +kernel)) (fun _ h9 => h9) rfl dX10_numberOf_7 ?_
  refine lv_icmp_ge (tgt := 35) hx hb dX10_numberOf_10 (by decide) (fun c2 => ?_) (fun c3 => ?_)
  · have hw := hw.1 c2
    refine lv_ldc (v := -2000000005) hx hb hown (hts (.constant RX10 85 (-2000000005)) (by decide +kernel)) dX10_numberOf_35 ?_
    exact x_iret (w1 := fun (u : Unit) => (wld_X10_numberOf cI cJ cZ h_p0 ad_p0 p0_places p0_steps p0_pastFirst p0_past p0_goings p0_rowSize p0_ways p0_hasField p0_fieldSize p0_faultNow p0_hasTree p0_treeSize p0_weightCount p0_roundCount p0_setCount p0_come p0_field p0_order)) hx hb hr hlocks () hw hP hD hS dX10_numberOf_37
  · have hw := hw.2 c3
    refine lv_aload_n hx hb dX10_numberOf_13 rfl (lv_at hl 1 rfl) ?_
    refine lv_aload_n hx hb dX10_numberOf_14 rfl (lv_at hl 1 rfl) ?_
    refine va_get (D := (dC, dI)) (ci := 10) (v := .ref (ad_p0 27)) (C := RX10) (T := TX10) (N := 50) hx hb hts iX10 hown hK hP 0 rfl rfl 27 (by decide) (hts (.fieldLink RX10 66 "NetHouseModel" "order" "[I") (by decide +kernel)) (fun _ h9 => h9) rfl dX10_numberOf_15 ?_
    refine lv_iload_n hx hb dX10_numberOf_18 rfl (lv_at hl 0 rfl) ?_
    refine va_iald hx hb hK hP 3 0 rfl rfl hw.1 dX10_numberOf_19 ?_
    have hw := hw.2
    obtain ⟨hPc, hDc⟩ := x_sub (wc := (wld_X10_compared cI cJ cZ h_p0 ad_p0 p0_places p0_steps p0_pastFirst p0_past p0_goings p0_rowSize p0_ways p0_hasField p0_fieldSize p0_faultNow p0_hasTree p0_treeSize p0_weightCount p0_roundCount p0_setCount p0_come p0_field)) hP hD [0, 1, 2] (n := 4) rfl rfl (by decide +kernel)
    refine x_calli (ws' := fun (u : Unit) => (wld_X10_numberOf cI cJ cZ h_p0 ad_p0 p0_places p0_steps p0_pastFirst p0_past p0_goings p0_rowSize p0_ways p0_hasField p0_fieldSize p0_faultNow p0_hasTree p0_treeSize p0_weightCount p0_roundCount p0_setCount p0_come p0_field p0_order)) hP hD hS hA [0, 1, 2] [3] [1, 2, 3, 0] (n := 4) (k := 3) rfl (fun _ => rfl) rfl (by decide +kernel) (fun _ => rfl) (va_runV (As := [.int (p0_order r1.toNatClampNeg)]) (rest := []) ⟨hx, hb, hml, hown, hts⟩ (c_X10_compared (l := l) (dC := dC) (dI := dI) (cI := cI) (cJ := cJ) (cZ := cZ) (sz := H.size) (h_p0 := h_p0) (ad_p0 := ad_p0) (p0_places := p0_places) (p0_steps := p0_steps) (p0_pastFirst := p0_pastFirst) (p0_past := p0_past) (p0_goings := p0_goings) (p0_rowSize := p0_rowSize) (p0_ways := p0_ways) (p0_hasField := p0_hasField) (p0_fieldSize := p0_fieldSize) (p0_faultNow := p0_faultNow) (p0_hasTree := p0_hasTree) (p0_treeSize := p0_treeSize) (p0_weightCount := p0_weightCount) (p0_roundCount := p0_roundCount) (p0_setCount := p0_setCount) (p0_come := p0_come) (p0_field := p0_field) hw) (cwV 1 hts gX10_numberOf_X10_compared rfl rfl rfl (by decide +kernel) ⟨Nat.le_of_ble_eq_true rfl, Nat.le_of_ble_eq_true rfl⟩) ⟨xPre_blind, va_recv hK hP (ci := 10) (q0 := 0) rfl rfl, xPre_at hK hPc hDc n1 n2⟩ rfl rfl hl.1 rfl (lv_room (Nat.le_of_ble_eq_true rfl)) dX10_numberOf_20 ⟨Nat.zero_le _, Nat.zero_le _⟩) (fun r4 u H locs hw hP hD hS => ?_)
    try dsimp only at hw
    have hP : va_P (dC, dI) vwCl (wld_X10_numberOf cI cJ cZ h_p0 ad_p0 p0_places p0_steps p0_pastFirst p0_past p0_goings p0_rowSize p0_ways p0_hasField p0_fieldSize p0_faultNow p0_hasTree p0_treeSize p0_weightCount p0_roundCount p0_setCount p0_come p0_field p0_order) H := hP
    have hD : va_D A (wld_X10_numberOf cI cJ cZ h_p0 ad_p0 p0_places p0_steps p0_pastFirst p0_past p0_goings p0_rowSize p0_ways p0_hasField p0_fieldSize p0_faultNow p0_hasTree p0_treeSize p0_weightCount p0_roundCount p0_setCount p0_come p0_field p0_order) := hD
    refine lv_if_ne (tgt := 35) hx hb dX10_numberOf_23 (by decide) (fun c5 => ?_) (fun c6 => ?_)
    · have hw := hw.1 c5
      refine lv_ldc (v := -2000000005) hx hb hown (hts (.constant RX10 85 (-2000000005)) (by decide +kernel)) dX10_numberOf_35 ?_
      exact x_iret (w1 := fun (u : Unit) => (wld_X10_numberOf cI cJ cZ h_p0 ad_p0 p0_places p0_steps p0_pastFirst p0_past p0_goings p0_rowSize p0_ways p0_hasField p0_fieldSize p0_faultNow p0_hasTree p0_treeSize p0_weightCount p0_roundCount p0_setCount p0_come p0_field p0_order)) hx hb hr hlocks () hw hP hD hS dX10_numberOf_37
    · have hw := hw.2 c6
      refine lv_aload_n hx hb dX10_numberOf_26 rfl (lv_at hl 1 rfl) ?_
      refine va_get (D := (dC, dI)) (ci := 10) (v := .ref (ad_p0 27)) (C := RX10) (T := TX10) (N := 50) hx hb hts iX10 hown hK hP 0 rfl rfl 27 (by decide) (hts (.fieldLink RX10 66 "NetHouseModel" "order" "[I") (by decide +kernel)) (fun _ h9 => h9) rfl dX10_numberOf_27 ?_
      refine lv_iload_n hx hb dX10_numberOf_30 rfl (lv_at hl 0 rfl) ?_
      refine va_iald hx hb hK hP 3 0 rfl rfl hw.1 dX10_numberOf_31 ?_
      have hw := hw.2
      refine lv_goto (tgt := 37) hx hb dX10_numberOf_32 (by decide) ?_
      exact x_iret (w1 := fun (u : Unit) => (wld_X10_numberOf cI cJ cZ h_p0 ad_p0 p0_places p0_steps p0_pastFirst p0_past p0_goings p0_rowSize p0_ways p0_hasField p0_fieldSize p0_faultNow p0_hasTree p0_treeSize p0_weightCount p0_roundCount p0_setCount p0_come p0_field p0_order)) hx hb hr hlocks () hw hP hD hS dX10_numberOf_37
abbrev wld_X10_addMarking (cI cJ cZ : ClassId) (h_p0 : Nat) (ad_p0 : Nat → Nat) (p0_places : Int32) (p0_steps : Int32) (p0_pastFirst : Int32) (p0_past : Int32) (p0_goings : Int32) (p0_rowSize : Int32) (p0_ways : Int32) (p0_hasField : Int32) (p0_fieldSize : Int32) (p0_faultNow : Int32) (p0_hasTree : Int32) (p0_treeSize : Int32) (p0_weightCount : Int32) (p0_roundCount : Int32) (p0_setCount : Int32) (p0_by : Nat → Int32) (p0_come : Nat → Int32) (p0_field : Nat → Int32) (p0_former : Nat → Int32) (p0_order : Nat → Int32) : va_W := [(h_p0, .inr (10, [.int p0_places, .int p0_steps, .ref (ad_p0 2), .ref (ad_p0 3), .ref (ad_p0 4), .ref (ad_p0 5), .ref (ad_p0 6), .ref (ad_p0 7), .ref (ad_p0 8), .ref (ad_p0 9), .ref (ad_p0 10), .ref (ad_p0 11), .ref (ad_p0 12), .ref (ad_p0 13), .ref (ad_p0 14), .int p0_pastFirst, .int p0_past, .int p0_goings, .int p0_rowSize, .ref (ad_p0 19), .ref (ad_p0 20), .int p0_ways, .ref (ad_p0 22), .ref (ad_p0 23), .int p0_hasField, .int p0_fieldSize, .ref (ad_p0 26), .ref (ad_p0 27), .ref (ad_p0 28), .ref (ad_p0 29), .ref (ad_p0 30), .ref (ad_p0 31), .ref (ad_p0 32), .int p0_faultNow, .int p0_hasTree, .int p0_treeSize, .ref (ad_p0 36), .ref (ad_p0 37), .ref (ad_p0 38), .ref (ad_p0 39), .ref (ad_p0 40), .ref (ad_p0 41), .ref (ad_p0 42), .int p0_weightCount, .ref (ad_p0 44), .int p0_roundCount, .ref (ad_p0 46), .int p0_setCount, .ref (ad_p0 48), .ref (ad_p0 49)])), ((ad_p0 29), .inl (cI, 8000, .inl p0_by)), ((ad_p0 31), .inl (cI, 16, .inl p0_come)), ((ad_p0 26), .inl (cI, 128000, .inl p0_field)), ((ad_p0 28), .inl (cI, 8000, .inl p0_former)), ((ad_p0 27), .inl (cI, 8000, .inl p0_order))]
abbrev q_X10_addMarking (dC : Nat → ClassId) (dI : Nat → Nat → Nat) (cI cJ cZ : ClassId) (h_p0 : Nat) (ad_p0 : Nat → Nat) (p0_places : Int32) (p0_steps : Int32) (p0_pastFirst : Int32) (p0_past : Int32) (p0_goings : Int32) (p0_rowSize : Int32) (p0_ways : Int32) (p0_hasField : Int32) (p0_fieldSize : Int32) (p0_faultNow : Int32) (p0_hasTree : Int32) (p0_treeSize : Int32) (p0_weightCount : Int32) (p0_roundCount : Int32) (p0_setCount : Int32) (p0_by : Nat → Int32) (p0_come : Nat → Int32) (p0_field : Nat → Int32) (p0_former : Nat → Int32) (p0_order : Nat → Int32) (post : (Int32) → (Nat → Int32) → (Nat → Int32) → (Nat → Int32) → (Nat → Int32) → Prop) (A : Nat → Prop) : Array Value → State → Outcome → State → Prop := va_Qv (fun (u : (Int32) × (Nat → Int32) × (Nat → Int32) × (Nat → Int32) × (Nat → Int32)) => post (u.1) (u.2.1) (u.2.2.1) (u.2.2.2.1) (u.2.2.2.2)) (fun (u : (Int32) × (Nat → Int32) × (Nat → Int32) × (Nat → Int32) × (Nat → Int32)) t => xPost (dC, dI) A (wld_X10_addMarking cI cJ cZ h_p0 ad_p0 p0_places p0_steps p0_pastFirst p0_past p0_goings p0_rowSize p0_ways p0_hasField (u.1) p0_faultNow p0_hasTree p0_treeSize p0_weightCount p0_roundCount p0_setCount (u.2.1) p0_come (u.2.2.1) (u.2.2.2.1) (u.2.2.2.2)) t) A
def w_X10_addMarking_L11b (v1 : Int32) (v2 : Int32) (v3 : Int32) (p0_fieldSize : Int32) (p0_places : Int32) (p0_by : Nat → Int32) (p0_come : Nat → Int32) (p0_field : Nat → Int32) (p0_former : Nat → Int32) (post : (Int32) → (Nat → Int32) → (Nat → Int32) → (Nat → Int32) → (Nat → Int32) → Prop) (K : (Int32) → (Nat → Int32) → Prop) (rec : (Int32) → (Nat → Int32) → Prop) (v4 : Int32) (p0_order : Nat → Int32) : Prop :=
    (v4 ≤ v3 →
      K v4 p0_order) ∧
    (¬ v4 ≤ v3 →
      vp_in (v4 - (1 : Int32)) 8000 ∧
      vp_in v4 8000 ∧
      ∀ x4 : Int32, x4 = v4 + (-1 : Int32) →
      rec x4 (upd p0_order v4.toNatClampNeg (p0_order (v4 - (1 : Int32)).toNatClampNeg)))
def w_X10_addMarking_L11 (v1 : Int32) (v2 : Int32) (v3 : Int32) (p0_fieldSize : Int32) (p0_places : Int32) (p0_by : Nat → Int32) (p0_come : Nat → Int32) (p0_field : Nat → Int32) (p0_former : Nat → Int32) (post : (Int32) → (Nat → Int32) → (Nat → Int32) → (Nat → Int32) → (Nat → Int32) → Prop) (K : (Int32) → (Nat → Int32) → Prop) : Nat → (Int32) → (Nat → Int32) → Prop
  | 0, _, _ => False
  | n + 1, v4, p0_order => w_X10_addMarking_L11b v1 v2 v3 p0_fieldSize p0_places p0_by p0_come p0_field p0_former post K (w_X10_addMarking_L11 v1 v2 v3 p0_fieldSize p0_places p0_by p0_come p0_field p0_former post K n) v4 p0_order
def w_X10_addMarking_L52b (v1 : Int32) (v2 : Int32) (p0_fieldSize : Int32) (p0_places : Int32) (p0_by : Nat → Int32) (p0_come : Nat → Int32) (p0_former : Nat → Int32) (p0_order : Nat → Int32) (post : (Int32) → (Nat → Int32) → (Nat → Int32) → (Nat → Int32) → (Nat → Int32) → Prop) (K : (Int32) → (Nat → Int32) → Prop) (rec : (Int32) → (Nat → Int32) → Prop) (v4 : Int32) (p0_field : Nat → Int32) : Prop :=
    (p0_places ≤ v4 →
      K v4 p0_field) ∧
    (¬ p0_places ≤ v4 →
      vp_in v4 16 ∧
      vp_in (((16 : Int32) * p0_fieldSize) + v4) 128000 ∧
      ∀ x10 : Int32, x10 = v4 + (1 : Int32) →
      rec x10 (upd p0_field (((16 : Int32) * p0_fieldSize) + v4).toNatClampNeg (p0_come v4.toNatClampNeg)))
def w_X10_addMarking_L52 (v1 : Int32) (v2 : Int32) (p0_fieldSize : Int32) (p0_places : Int32) (p0_by : Nat → Int32) (p0_come : Nat → Int32) (p0_former : Nat → Int32) (p0_order : Nat → Int32) (post : (Int32) → (Nat → Int32) → (Nat → Int32) → (Nat → Int32) → (Nat → Int32) → Prop) (K : (Int32) → (Nat → Int32) → Prop) : Nat → (Int32) → (Nat → Int32) → Prop
  | 0, _, _ => False
  | n + 1, v4, p0_field => w_X10_addMarking_L52b v1 v2 p0_fieldSize p0_places p0_by p0_come p0_former p0_order post K (w_X10_addMarking_L52 v1 v2 p0_fieldSize p0_places p0_by p0_come p0_former p0_order post K n) v4 p0_field
def w_X10_addMarking (p0_fieldSize : Int32) (p0_places : Int32) (p0_by : Nat → Int32) (p0_come : Nat → Int32) (p0_field : Nat → Int32) (p0_former : Nat → Int32) (p0_order : Nat → Int32) (a1 : Int32) (a2 : Int32) (post : (Int32) → (Nat → Int32) → (Nat → Int32) → (Nat → Int32) → (Nat → Int32) → Prop) : Prop :=
  w_X10_sought p0_fieldSize p0_places p0_come p0_field p0_order (fun r1 =>
  ∃ n : Nat, w_X10_addMarking_L11 a1 a2 r1 p0_fieldSize p0_places p0_by p0_come p0_field p0_former post (fun v6 s7 =>
      vp_in r1 8000 ∧
      ∃ n : Nat, w_X10_addMarking_L52 a1 a2 p0_fieldSize p0_places p0_by p0_come p0_former (upd s7 r1.toNatClampNeg p0_fieldSize) post (fun v12 s13 =>
          vp_in p0_fieldSize 8000 ∧
          vp_in p0_fieldSize 8000 ∧
          ∀ x14 : Int32, x14 = (p0_fieldSize + (1 : Int32)) →
          (post x14 (upd p0_by p0_fieldSize.toNatClampNeg a2) s13 (upd p0_former p0_fieldSize.toNatClampNeg a1) (upd s7 r1.toNatClampNeg p0_fieldSize))) n (0 : Int32) p0_field) n p0_fieldSize p0_order)
set_option maxHeartbeats 4000000 in
set_option maxRecDepth 100000 in
theorem c_X10_addMarking_L11 {p : Program} {l : Launch} {e : Env} {s : State} {m : MethodId} {args : Array Value} {below : List Frame} {meth : Method} {c : Code} {dC : Nat → ClassId} {dI : Nat → Nat → Nat} {A : Nat → Prop} {cI cJ cZ : ClassId} {h_p0 : Nat} {ad_p0 : Nat → Nat} {p0_places : Int32} {p0_steps : Int32} {p0_pastFirst : Int32} {p0_past : Int32} {p0_goings : Int32} {p0_rowSize : Int32} {p0_ways : Int32} {p0_hasField : Int32} {p0_fieldSize : Int32} {p0_faultNow : Int32} {p0_hasTree : Int32} {p0_treeSize : Int32} {p0_weightCount : Int32} {p0_roundCount : Int32} {p0_setCount : Int32} {p0_by : Nat → Int32} {p0_come : Nat → Int32} {p0_field : Nat → Int32} {p0_former : Nat → Int32} {v1 : Int32} {v2 : Int32} {v3 : Int32} {z_p0_order : Nat → Int32} {post : (Int32) → (Nat → Int32) → (Nat → Int32) → (Nat → Int32) → (Nat → Int32) → Prop} {K : (Int32) → (Nat → Int32) → Prop} (E0 : xEnv p s m args meth c cX10_addMarking none 5 RX10 wsX10_addMarking (dC, dI) cI cJ cZ A) (hk : ∀ (v4 : Int32) (p0_order : Nat → Int32) (H : Heap) (locs : List Loc) (ls : Array Slot), K v4 p0_order → va_P (dC, dI) vwCl (wld_X10_addMarking cI cJ cZ h_p0 ad_p0 p0_places p0_steps p0_pastFirst p0_past p0_goings p0_rowSize p0_ways p0_hasField p0_fieldSize p0_faultNow p0_hasTree p0_treeSize p0_weightCount p0_roundCount p0_setCount p0_by p0_come p0_field p0_former p0_order) H → va_D A (wld_X10_addMarking cI cJ cZ h_p0 ad_p0 p0_places p0_steps p0_pastFirst p0_past p0_goings p0_rowSize p0_ways p0_hasField p0_fieldSize p0_faultNow p0_hasTree p0_treeSize p0_weightCount p0_roundCount p0_setCount p0_by p0_come p0_field p0_former p0_order) → va_S A s.heap H locs → lv_has ls 5 [(0, .ref h_p0), (1, .int v1), (2, .int v2), (3, .int v3)] → W p l e ({ frames := 2, cells := 0, slots := 0, locals := 45 }) s m args below meth c H locs 0 0 (MQ below (q_X10_addMarking dC dI cI cJ cZ h_p0 ad_p0 p0_places p0_steps p0_pastFirst p0_past p0_goings p0_rowSize p0_ways p0_hasField p0_fieldSize p0_faultNow p0_hasTree p0_treeSize p0_weightCount p0_roundCount p0_setCount p0_by p0_come p0_field p0_former z_p0_order post A) args s 0 0 A) (F0 m 39 ls [])) : ∀ (n : Nat) (v4 : Int32) (p0_order : Nat → Int32), w_X10_addMarking_L11 v1 v2 v3 p0_fieldSize p0_places p0_by p0_come p0_field p0_former post K n v4 p0_order → ∀ (H : Heap) (locs : List Loc) (ls : Array Slot), va_P (dC, dI) vwCl (wld_X10_addMarking cI cJ cZ h_p0 ad_p0 p0_places p0_steps p0_pastFirst p0_past p0_goings p0_rowSize p0_ways p0_hasField p0_fieldSize p0_faultNow p0_hasTree p0_treeSize p0_weightCount p0_roundCount p0_setCount p0_by p0_come p0_field p0_former p0_order) H → va_D A (wld_X10_addMarking cI cJ cZ h_p0 ad_p0 p0_places p0_steps p0_pastFirst p0_past p0_goings p0_rowSize p0_ways p0_hasField p0_fieldSize p0_faultNow p0_hasTree p0_treeSize p0_weightCount p0_roundCount p0_setCount p0_by p0_come p0_field p0_former p0_order) → va_S A s.heap H locs → lv_has ls 5 [(0, .ref h_p0), (1, .int v1), (2, .int v2), (3, .int v3), (4, .int v4)] → W p l e ({ frames := 2, cells := 0, slots := 0, locals := 45 }) s m args below meth c H locs 0 0 (MQ below (q_X10_addMarking dC dI cI cJ cZ h_p0 ad_p0 p0_places p0_steps p0_pastFirst p0_past p0_goings p0_rowSize p0_ways p0_hasField p0_fieldSize p0_faultNow p0_hasTree p0_treeSize p0_weightCount p0_roundCount p0_setCount p0_by p0_come p0_field p0_former z_p0_order post A) args s 0 0 A) (F0 m 11 ls []) := by
  obtain ⟨hx, hb, hr, hml, hown, hts, hlocks, hK, hA, n1, n2⟩ := id E0
  have iX10 : ∀ w ∈ u_ws RX10 TX10 50, w ∈ wsX10_addMarking := fun w h => List.mem_cons_of_mem _ (List.mem_append_right _ h)
  intro n
  induction n with
  | zero => intro v4 p0_order hw; exact hw.elim
  | succ n ih =>
    intro v4 p0_order hw H locs ls hP hD hS hl
    have hw : w_X10_addMarking_L11b v1 v2 v3 p0_fieldSize p0_places p0_by p0_come p0_field p0_former post K (w_X10_addMarking_L11 v1 v2 v3 p0_fieldSize p0_places p0_by p0_come p0_field p0_former post K n) v4 p0_order := hw
    unfold w_X10_addMarking_L11b at hw
    refine lv_iload hx hb dX10_addMarking_11 (lv_at hl 4 rfl) ?_
    refine lv_iload_n hx hb dX10_addMarking_13 rfl (lv_at hl 3 rfl) ?_
    refine lv_icmp_le (tgt := 39) hx hb dX10_addMarking_14 (by decide) (fun c2 => ?_) (fun c3 => ?_)
    · have hw := hw.1 c2
      exact hk _ _ _ _ _ hw hP hD hS (lv_sub hl [0, 1, 2, 3] rfl)
    · have hw := hw.2 c3
      refine lv_aload_n hx hb dX10_addMarking_17 rfl (lv_at hl 0 rfl) ?_
      refine va_get (D := (dC, dI)) (ci := 10) (v := .ref (ad_p0 27)) (C := RX10) (T := TX10) (N := 50) hx hb hts iX10 hown hK hP 0 rfl rfl 27 (by decide) (hts (.fieldLink RX10 66 "NetHouseModel" "order" "[I") (by decide +kernel)) (fun _ h9 => h9) rfl dX10_addMarking_18 ?_
      refine lv_iload hx hb dX10_addMarking_21 (lv_at hl 4 rfl) ?_
      refine lv_aload_n hx hb dX10_addMarking_23 rfl (lv_at hl 0 rfl) ?_
      refine va_get (D := (dC, dI)) (ci := 10) (v := .ref (ad_p0 27)) (C := RX10) (T := TX10) (N := 50) hx hb hts iX10 hown hK hP 0 rfl rfl 27 (by decide) (hts (.fieldLink RX10 66 "NetHouseModel" "order" "[I") (by decide +kernel)) (fun _ h9 => h9) rfl dX10_addMarking_24 ?_
      refine lv_iload hx hb dX10_addMarking_27 (lv_at hl 4 rfl) ?_
      refine lv_iconst (v := 1) hx hb dX10_addMarking_29 (by decide) ?_
      refine lv_isub hx hb dX10_addMarking_30 ?_
      refine va_iald hx hb hK hP 5 0 rfl rfl hw.1 dX10_addMarking_31 ?_
      have hw := hw.2
      refine va_iast hx hb hK hP hD hS 5 0 rfl rfl hw.1 dX10_addMarking_32 (fun H locs hP hD hS => ?_)
      have hw := hw.2
      have hP : va_P (dC, dI) vwCl (wld_X10_addMarking cI cJ cZ h_p0 ad_p0 p0_places p0_steps p0_pastFirst p0_past p0_goings p0_rowSize p0_ways p0_hasField p0_fieldSize p0_faultNow p0_hasTree p0_treeSize p0_weightCount p0_roundCount p0_setCount p0_by p0_come p0_field p0_former (upd p0_order v4.toNatClampNeg (p0_order (v4 - (1 : Int32)).toNatClampNeg))) H := hP
      have hD : va_D A (wld_X10_addMarking cI cJ cZ h_p0 ad_p0 p0_places p0_steps p0_pastFirst p0_past p0_goings p0_rowSize p0_ways p0_hasField p0_fieldSize p0_faultNow p0_hasTree p0_treeSize p0_weightCount p0_roundCount p0_setCount p0_by p0_come p0_field p0_former (upd p0_order v4.toNatClampNeg (p0_order (v4 - (1 : Int32)).toNatClampNeg))) := hD
      obtain ⟨x4, ex4⟩ : ∃ y : Int32, y = v4 + (-1 : Int32) := ⟨_, rfl⟩
      have hw := hw x4 ex4
      refine lv_iinc (v := x4) (lv' := [(4, .int x4), (0, .ref h_p0), (1, .int v1), (2, .int v2), (3, .int v3)]) hx hb dX10_addMarking_33 hl (k := 4) rfl (by rw [ex4]; rfl) (by decide) rfl (fun ls hl => ?_)
      refine lv_goto (tgt := 11) hx hb dX10_addMarking_36 (by decide) ?_
      exact ih _ _ hw _ _ _ hP hD hS (lv_sub hl [1, 2, 3, 4, 0] rfl)
set_option maxHeartbeats 4000000 in
set_option maxRecDepth 100000 in
theorem c_X10_addMarking_L52 {p : Program} {l : Launch} {e : Env} {s : State} {m : MethodId} {args : Array Value} {below : List Frame} {meth : Method} {c : Code} {dC : Nat → ClassId} {dI : Nat → Nat → Nat} {A : Nat → Prop} {cI cJ cZ : ClassId} {h_p0 : Nat} {ad_p0 : Nat → Nat} {p0_places : Int32} {p0_steps : Int32} {p0_pastFirst : Int32} {p0_past : Int32} {p0_goings : Int32} {p0_rowSize : Int32} {p0_ways : Int32} {p0_hasField : Int32} {p0_fieldSize : Int32} {p0_faultNow : Int32} {p0_hasTree : Int32} {p0_treeSize : Int32} {p0_weightCount : Int32} {p0_roundCount : Int32} {p0_setCount : Int32} {p0_by : Nat → Int32} {p0_come : Nat → Int32} {p0_former : Nat → Int32} {p0_order : Nat → Int32} {v1 : Int32} {v2 : Int32} {z_p0_field : Nat → Int32} {post : (Int32) → (Nat → Int32) → (Nat → Int32) → (Nat → Int32) → (Nat → Int32) → Prop} {K : (Int32) → (Nat → Int32) → Prop} (E0 : xEnv p s m args meth c cX10_addMarking none 5 RX10 wsX10_addMarking (dC, dI) cI cJ cZ A) (hk : ∀ (v4 : Int32) (p0_field : Nat → Int32) (H : Heap) (locs : List Loc) (ls : Array Slot), K v4 p0_field → va_P (dC, dI) vwCl (wld_X10_addMarking cI cJ cZ h_p0 ad_p0 p0_places p0_steps p0_pastFirst p0_past p0_goings p0_rowSize p0_ways p0_hasField p0_fieldSize p0_faultNow p0_hasTree p0_treeSize p0_weightCount p0_roundCount p0_setCount p0_by p0_come p0_field p0_former p0_order) H → va_D A (wld_X10_addMarking cI cJ cZ h_p0 ad_p0 p0_places p0_steps p0_pastFirst p0_past p0_goings p0_rowSize p0_ways p0_hasField p0_fieldSize p0_faultNow p0_hasTree p0_treeSize p0_weightCount p0_roundCount p0_setCount p0_by p0_come p0_field p0_former p0_order) → va_S A s.heap H locs → lv_has ls 5 [(0, .ref h_p0), (1, .int v1), (2, .int v2)] → W p l e ({ frames := 2, cells := 0, slots := 0, locals := 45 }) s m args below meth c H locs 0 0 (MQ below (q_X10_addMarking dC dI cI cJ cZ h_p0 ad_p0 p0_places p0_steps p0_pastFirst p0_past p0_goings p0_rowSize p0_ways p0_hasField p0_fieldSize p0_faultNow p0_hasTree p0_treeSize p0_weightCount p0_roundCount p0_setCount p0_by p0_come z_p0_field p0_former p0_order post A) args s 0 0 A) (F0 m 89 ls [])) : ∀ (n : Nat) (v4 : Int32) (p0_field : Nat → Int32), w_X10_addMarking_L52 v1 v2 p0_fieldSize p0_places p0_by p0_come p0_former p0_order post K n v4 p0_field → ∀ (H : Heap) (locs : List Loc) (ls : Array Slot), va_P (dC, dI) vwCl (wld_X10_addMarking cI cJ cZ h_p0 ad_p0 p0_places p0_steps p0_pastFirst p0_past p0_goings p0_rowSize p0_ways p0_hasField p0_fieldSize p0_faultNow p0_hasTree p0_treeSize p0_weightCount p0_roundCount p0_setCount p0_by p0_come p0_field p0_former p0_order) H → va_D A (wld_X10_addMarking cI cJ cZ h_p0 ad_p0 p0_places p0_steps p0_pastFirst p0_past p0_goings p0_rowSize p0_ways p0_hasField p0_fieldSize p0_faultNow p0_hasTree p0_treeSize p0_weightCount p0_roundCount p0_setCount p0_by p0_come p0_field p0_former p0_order) → va_S A s.heap H locs → lv_has ls 5 [(0, .ref h_p0), (1, .int v1), (2, .int v2), (4, .int v4)] → W p l e ({ frames := 2, cells := 0, slots := 0, locals := 45 }) s m args below meth c H locs 0 0 (MQ below (q_X10_addMarking dC dI cI cJ cZ h_p0 ad_p0 p0_places p0_steps p0_pastFirst p0_past p0_goings p0_rowSize p0_ways p0_hasField p0_fieldSize p0_faultNow p0_hasTree p0_treeSize p0_weightCount p0_roundCount p0_setCount p0_by p0_come z_p0_field p0_former p0_order post A) args s 0 0 A) (F0 m 52 ls []) := by
  obtain ⟨hx, hb, hr, hml, hown, hts, hlocks, hK, hA, n1, n2⟩ := id E0
  have iX10 : ∀ w ∈ u_ws RX10 TX10 50, w ∈ wsX10_addMarking := fun w h => List.mem_cons_of_mem _ (List.mem_append_right _ h)
  intro n
  induction n with
  | zero => intro v4 p0_field hw; exact hw.elim
  | succ n ih =>
    intro v4 p0_field hw H locs ls hP hD hS hl
    have hw : w_X10_addMarking_L52b v1 v2 p0_fieldSize p0_places p0_by p0_come p0_former p0_order post K (w_X10_addMarking_L52 v1 v2 p0_fieldSize p0_places p0_by p0_come p0_former p0_order post K n) v4 p0_field := hw
    unfold w_X10_addMarking_L52b at hw
    refine lv_iload hx hb dX10_addMarking_52 (lv_at hl 3 rfl) ?_
    refine lv_aload_n hx hb dX10_addMarking_54 rfl (lv_at hl 0 rfl) ?_
    refine va_get (D := (dC, dI)) (ci := 10) (v := .int p0_places) (C := RX10) (T := TX10) (N := 50) hx hb hts iX10 hown hK hP 0 rfl rfl 0 (by decide) (hts (.fieldLink RX10 127 "NetHouseModel" "places" "I") (by decide +kernel)) (fun _ h9 => h9) rfl dX10_addMarking_55 ?_
    refine lv_icmp_ge (tgt := 89) hx hb dX10_addMarking_58 (by decide) (fun c8 => ?_) (fun c9 => ?_)
    · have hw := hw.1 c8
      exact hk _ _ _ _ _ hw hP hD hS (lv_sub hl [0, 1, 2] rfl)
    · have hw := hw.2 c9
      refine lv_aload_n hx hb dX10_addMarking_61 rfl (lv_at hl 0 rfl) ?_
      refine va_get (D := (dC, dI)) (ci := 10) (v := .ref (ad_p0 26)) (C := RX10) (T := TX10) (N := 50) hx hb hts iX10 hown hK hP 0 rfl rfl 26 (by decide) (hts (.fieldLink RX10 63 "NetHouseModel" "field" "[I") (by decide +kernel)) (fun _ h9 => h9) rfl dX10_addMarking_62 ?_
      refine lv_bipush (v := 16) hx hb dX10_addMarking_65 (by decide) ?_
      refine lv_aload_n hx hb dX10_addMarking_67 rfl (lv_at hl 0 rfl) ?_
      refine va_get (D := (dC, dI)) (ci := 10) (v := .int p0_fieldSize) (C := RX10) (T := TX10) (N := 50) hx hb hts iX10 hown hK hP 0 rfl rfl 25 (by decide) (hts (.fieldLink RX10 124 "NetHouseModel" "fieldSize" "I") (by decide +kernel)) (fun _ h9 => h9) rfl dX10_addMarking_68 ?_
      refine lv_imul hx hb dX10_addMarking_71 ?_
      refine lv_iload hx hb dX10_addMarking_72 (lv_at hl 3 rfl) ?_
      refine lv_iadd hx hb dX10_addMarking_74 ?_
      refine lv_aload_n hx hb dX10_addMarking_75 rfl (lv_at hl 0 rfl) ?_
      refine va_get (D := (dC, dI)) (ci := 10) (v := .ref (ad_p0 31)) (C := RX10) (T := TX10) (N := 50) hx hb hts iX10 hown hK hP 0 rfl rfl 31 (by decide) (hts (.fieldLink RX10 78 "NetHouseModel" "come" "[I") (by decide +kernel)) (fun _ h9 => h9) rfl dX10_addMarking_76 ?_
      refine lv_iload hx hb dX10_addMarking_79 (lv_at hl 3 rfl) ?_
      refine va_iald hx hb hK hP 2 0 rfl rfl hw.1 dX10_addMarking_81 ?_
      have hw := hw.2
      refine va_iast hx hb hK hP hD hS 3 0 rfl rfl hw.1 dX10_addMarking_82 (fun H locs hP hD hS => ?_)
      have hw := hw.2
      have hP : va_P (dC, dI) vwCl (wld_X10_addMarking cI cJ cZ h_p0 ad_p0 p0_places p0_steps p0_pastFirst p0_past p0_goings p0_rowSize p0_ways p0_hasField p0_fieldSize p0_faultNow p0_hasTree p0_treeSize p0_weightCount p0_roundCount p0_setCount p0_by p0_come (upd p0_field (((16 : Int32) * p0_fieldSize) + v4).toNatClampNeg (p0_come v4.toNatClampNeg)) p0_former p0_order) H := hP
      have hD : va_D A (wld_X10_addMarking cI cJ cZ h_p0 ad_p0 p0_places p0_steps p0_pastFirst p0_past p0_goings p0_rowSize p0_ways p0_hasField p0_fieldSize p0_faultNow p0_hasTree p0_treeSize p0_weightCount p0_roundCount p0_setCount p0_by p0_come (upd p0_field (((16 : Int32) * p0_fieldSize) + v4).toNatClampNeg (p0_come v4.toNatClampNeg)) p0_former p0_order) := hD
      obtain ⟨x10, ex10⟩ : ∃ y : Int32, y = v4 + (1 : Int32) := ⟨_, rfl⟩
      have hw := hw x10 ex10
      refine lv_iinc (v := x10) (lv' := [(4, .int x10), (0, .ref h_p0), (1, .int v1), (2, .int v2)]) hx hb dX10_addMarking_83 hl (k := 3) rfl (by rw [ex10]; rfl) (by decide) rfl (fun ls hl => ?_)
      refine lv_goto (tgt := 52) hx hb dX10_addMarking_86 (by decide) ?_
      exact ih _ _ hw _ _ _ hP hD hS (lv_sub hl [1, 2, 3, 0] rfl)
set_option maxHeartbeats 4000000 in
set_option maxRecDepth 100000 in
theorem c_X10_addMarking {l : Launch} {dC : Nat → ClassId} {dI : Nat → Nat → Nat} {sz : Nat} {cI cJ cZ : ClassId} {h_p0 : Nat} {ad_p0 : Nat → Nat} {p0_places : Int32} {p0_steps : Int32} {p0_pastFirst : Int32} {p0_past : Int32} {p0_goings : Int32} {p0_rowSize : Int32} {p0_ways : Int32} {p0_hasField : Int32} {p0_fieldSize : Int32} {p0_faultNow : Int32} {p0_hasTree : Int32} {p0_treeSize : Int32} {p0_weightCount : Int32} {p0_roundCount : Int32} {p0_setCount : Int32} {p0_by : Nat → Int32} {p0_come : Nat → Int32} {p0_field : Nat → Int32} {p0_former : Nat → Int32} {p0_order : Nat → Int32} {a1 : Int32} {a2 : Int32} {post : (Int32) → (Nat → Int32) → (Nat → Int32) → (Nat → Int32) → (Nat → Int32) → Prop} (hw : w_X10_addMarking p0_fieldSize p0_places p0_by p0_come p0_field p0_former p0_order a1 a2 post) : Met l yX10_addMarking wsX10_addMarking ({ frames := 2, cells := 0, slots := 0, locals := 45 }) (va_Pc [.ref h_p0, .int a1, .int a2] (xPre (dC, dI) cI cJ cZ (wld_X10_addMarking cI cJ cZ h_p0 ad_p0 p0_places p0_steps p0_pastFirst p0_past p0_goings p0_rowSize p0_ways p0_hasField p0_fieldSize p0_faultNow p0_hasTree p0_treeSize p0_weightCount p0_roundCount p0_setCount p0_by p0_come p0_field p0_former p0_order) sz)) (q_X10_addMarking dC dI cI cJ cZ h_p0 ad_p0 p0_places p0_steps p0_pastFirst p0_past p0_goings p0_rowSize p0_ways p0_hasField p0_fieldSize p0_faultNow p0_hasTree p0_treeSize p0_weightCount p0_roundCount p0_setCount p0_by p0_come p0_field p0_former p0_order post (va_A (wld_X10_addMarking cI cJ cZ h_p0 ad_p0 p0_places p0_steps p0_pastFirst p0_past p0_goings p0_rowSize p0_ways p0_hasField p0_fieldSize p0_faultNow p0_hasTree p0_treeSize p0_weightCount p0_roundCount p0_setCount p0_by p0_come p0_field p0_former p0_order) sz)) 0 0 (va_A (wld_X10_addMarking cI cJ cZ h_p0 ad_p0 p0_places p0_steps p0_pastFirst p0_past p0_goings p0_rowSize p0_ways p0_hasField p0_fieldSize p0_faultNow p0_hasTree p0_treeSize p0_weightCount p0_roundCount p0_setCount p0_by p0_come p0_field p0_former p0_order) sz) := by
  refine x_met (cc := cX10_addMarking) (maxL := 5) (ret := none) (own := RX10) (Qc := fun A => (q_X10_addMarking dC dI cI cJ cZ h_p0 ad_p0 p0_places p0_steps p0_pastFirst p0_past p0_goings p0_rowSize p0_ways p0_hasField p0_fieldSize p0_faultNow p0_hasTree p0_treeSize p0_weightCount p0_roundCount p0_setCount p0_by p0_come p0_field p0_former p0_order post A)) (by decide) rfl rfl (Nat.le_of_ble_eq_true rfl) ?_
  intro p e s m args below meth c A ls E0 hP hD hS hl
  obtain ⟨hx, hb, hr, hml, hown, hts, hlocks, hK, hA, n1, n2⟩ := id E0
  have iX10 : ∀ w ∈ u_ws RX10 TX10 50, w ∈ wsX10_addMarking := fun w h => List.mem_cons_of_mem _ (List.mem_append_right _ h)
  have hS0 := hS
  have hl : lv_has ls 5 [(0, .ref h_p0), (1, .int a1), (2, .int a2)] := hl
  unfold w_X10_addMarking at hw
  obtain ⟨H, hH⟩ : ∃ H, H = s.heap := ⟨_, rfl⟩
  have hS : va_S A s.heap H [] := by rw [hH]; exact hS
  have hP : va_P (dC, dI) vwCl (wld_X10_addMarking cI cJ cZ h_p0 ad_p0 p0_places p0_steps p0_pastFirst p0_past p0_goings p0_rowSize p0_ways p0_hasField p0_fieldSize p0_faultNow p0_hasTree p0_treeSize p0_weightCount p0_roundCount p0_setCount p0_by p0_come p0_field p0_former p0_order) H := by rw [hH]; exact hP
  suffices hG : W p l e ({ frames := 2, cells := 0, slots := 0, locals := 45 }) s m args below meth c H [] 0 0 (MQ below (q_X10_addMarking dC dI cI cJ cZ h_p0 ad_p0 p0_places p0_steps p0_pastFirst p0_past p0_goings p0_rowSize p0_ways p0_hasField p0_fieldSize p0_faultNow p0_hasTree p0_treeSize p0_weightCount p0_roundCount p0_setCount p0_by p0_come p0_field p0_former p0_order post A) args s 0 0 A) (F0 m 0 ls []) by rw [hH] at hG; exact hG
  clear hH
  refine lv_aload_n hx hb dX10_addMarking_0 rfl (lv_at hl 0 rfl) ?_
  obtain ⟨hPc, hDc⟩ := x_sub (wc := (wld_X10_sought cI cJ cZ h_p0 ad_p0 p0_places p0_steps p0_pastFirst p0_past p0_goings p0_rowSize p0_ways p0_hasField p0_fieldSize p0_faultNow p0_hasTree p0_treeSize p0_weightCount p0_roundCount p0_setCount p0_come p0_field p0_order)) hP hD [0, 2, 3, 5] (n := 6) rfl rfl (by decide +kernel)
  refine x_calli (ws' := fun (u : Unit) => (wld_X10_addMarking cI cJ cZ h_p0 ad_p0 p0_places p0_steps p0_pastFirst p0_past p0_goings p0_rowSize p0_ways p0_hasField p0_fieldSize p0_faultNow p0_hasTree p0_treeSize p0_weightCount p0_roundCount p0_setCount p0_by p0_come p0_field p0_former p0_order)) hP hD hS hA [0, 2, 3, 5] [1, 4] [2, 0, 3, 4, 1, 5] (n := 6) (k := 4) rfl (fun _ => rfl) rfl (by decide +kernel) (fun _ => rfl) (va_runV (As := []) (rest := []) ⟨hx, hb, hml, hown, hts⟩ (c_X10_sought (l := l) (dC := dC) (dI := dI) (cI := cI) (cJ := cJ) (cZ := cZ) (sz := H.size) (h_p0 := h_p0) (ad_p0 := ad_p0) (p0_places := p0_places) (p0_steps := p0_steps) (p0_pastFirst := p0_pastFirst) (p0_past := p0_past) (p0_goings := p0_goings) (p0_rowSize := p0_rowSize) (p0_ways := p0_ways) (p0_hasField := p0_hasField) (p0_fieldSize := p0_fieldSize) (p0_faultNow := p0_faultNow) (p0_hasTree := p0_hasTree) (p0_treeSize := p0_treeSize) (p0_weightCount := p0_weightCount) (p0_roundCount := p0_roundCount) (p0_setCount := p0_setCount) (p0_come := p0_come) (p0_field := p0_field) (p0_order := p0_order) hw) (cwV 0 hts gX10_addMarking_X10_sought rfl rfl rfl (by decide +kernel) ⟨Nat.le_of_ble_eq_true rfl, Nat.le_of_ble_eq_true rfl⟩) ⟨xPre_blind, va_recv hK hP (ci := 10) (q0 := 0) rfl rfl, xPre_at hK hPc hDc n1 n2⟩ rfl rfl hl.1 rfl (lv_room (Nat.le_of_ble_eq_true rfl)) dX10_addMarking_1 ⟨Nat.zero_le _, Nat.zero_le _⟩) (fun r1 u H locs hw hP hD hS => ?_)
  try dsimp only at hw
  have hP : va_P (dC, dI) vwCl (wld_X10_addMarking cI cJ cZ h_p0 ad_p0 p0_places p0_steps p0_pastFirst p0_past p0_goings p0_rowSize p0_ways p0_hasField p0_fieldSize p0_faultNow p0_hasTree p0_treeSize p0_weightCount p0_roundCount p0_setCount p0_by p0_come p0_field p0_former p0_order) H := hP
  have hD : va_D A (wld_X10_addMarking cI cJ cZ h_p0 ad_p0 p0_places p0_steps p0_pastFirst p0_past p0_goings p0_rowSize p0_ways p0_hasField p0_fieldSize p0_faultNow p0_hasTree p0_treeSize p0_weightCount p0_roundCount p0_setCount p0_by p0_come p0_field p0_former p0_order) := hD
  refine lv_istore_n (lv' := [(3, .int r1), (0, .ref h_p0), (1, .int a1), (2, .int a2)]) hx hb dX10_addMarking_4 rfl hl (by decide) rfl (fun ls hl => ?_)
  refine lv_aload_n hx hb dX10_addMarking_5 rfl (lv_at hl 1 rfl) ?_
  refine va_get (D := (dC, dI)) (ci := 10) (v := .int p0_fieldSize) (C := RX10) (T := TX10) (N := 50) hx hb hts iX10 hown hK hP 0 rfl rfl 25 (by decide) (hts (.fieldLink RX10 124 "NetHouseModel" "fieldSize" "I") (by decide +kernel)) (fun _ h9 => h9) rfl dX10_addMarking_6 ?_
  refine lv_istore (lv' := [(4, .int p0_fieldSize), (3, .int r1), (0, .ref h_p0), (1, .int a1), (2, .int a2)]) hx hb dX10_addMarking_9 hl (by decide) rfl (fun ls hl => ?_)
  obtain ⟨n5, hw⟩ := hw
  refine c_X10_addMarking_L11 (l := l) (z_p0_order := p0_order) E0 ?_ n5 _ _ hw _ _ _ hP hD hS (lv_sub hl [2, 3, 4, 1, 0] rfl)
  · intro v6 s7 H locs ls hw hP hD hS hl
    have hP : va_P (dC, dI) vwCl (wld_X10_addMarking cI cJ cZ h_p0 ad_p0 p0_places p0_steps p0_pastFirst p0_past p0_goings p0_rowSize p0_ways p0_hasField p0_fieldSize p0_faultNow p0_hasTree p0_treeSize p0_weightCount p0_roundCount p0_setCount p0_by p0_come p0_field p0_former s7) H := hP
    have hD : va_D A (wld_X10_addMarking cI cJ cZ h_p0 ad_p0 p0_places p0_steps p0_pastFirst p0_past p0_goings p0_rowSize p0_ways p0_hasField p0_fieldSize p0_faultNow p0_hasTree p0_treeSize p0_weightCount p0_roundCount p0_setCount p0_by p0_come p0_field p0_former s7) := hD
    refine lv_aload_n hx hb dX10_addMarking_39 rfl (lv_at hl 0 rfl) ?_
    refine va_get (D := (dC, dI)) (ci := 10) (v := .ref (ad_p0 27)) (C := RX10) (T := TX10) (N := 50) hx hb hts iX10 hown hK hP 0 rfl rfl 27 (by decide) (hts (.fieldLink RX10 66 "NetHouseModel" "order" "[I") (by decide +kernel)) (fun _ h9 => h9) rfl dX10_addMarking_40 ?_
    refine lv_iload_n hx hb dX10_addMarking_43 rfl (lv_at hl 3 rfl) ?_
    refine lv_aload_n hx hb dX10_addMarking_44 rfl (lv_at hl 0 rfl) ?_
    refine va_get (D := (dC, dI)) (ci := 10) (v := .int p0_fieldSize) (C := RX10) (T := TX10) (N := 50) hx hb hts iX10 hown hK hP 0 rfl rfl 25 (by decide) (hts (.fieldLink RX10 124 "NetHouseModel" "fieldSize" "I") (by decide +kernel)) (fun _ h9 => h9) rfl dX10_addMarking_45 ?_
    refine va_iast hx hb hK hP hD hS 5 0 rfl rfl hw.1 dX10_addMarking_48 (fun H locs hP hD hS => ?_)
    have hw := hw.2
    have hP : va_P (dC, dI) vwCl (wld_X10_addMarking cI cJ cZ h_p0 ad_p0 p0_places p0_steps p0_pastFirst p0_past p0_goings p0_rowSize p0_ways p0_hasField p0_fieldSize p0_faultNow p0_hasTree p0_treeSize p0_weightCount p0_roundCount p0_setCount p0_by p0_come p0_field p0_former (upd s7 r1.toNatClampNeg p0_fieldSize)) H := hP
    have hD : va_D A (wld_X10_addMarking cI cJ cZ h_p0 ad_p0 p0_places p0_steps p0_pastFirst p0_past p0_goings p0_rowSize p0_ways p0_hasField p0_fieldSize p0_faultNow p0_hasTree p0_treeSize p0_weightCount p0_roundCount p0_setCount p0_by p0_come p0_field p0_former (upd s7 r1.toNatClampNeg p0_fieldSize)) := hD
    refine lv_iconst (v := 0) hx hb dX10_addMarking_49 (by decide) ?_
    refine lv_istore (lv' := [(4, .int (0 : Int32)), (0, .ref h_p0), (1, .int a1), (2, .int a2), (3, .int r1)]) hx hb dX10_addMarking_50 hl (by decide) rfl (fun ls hl => ?_)
    obtain ⟨n11, hw⟩ := hw
    refine c_X10_addMarking_L52 (l := l) (z_p0_field := p0_field) E0 ?_ n11 _ _ hw _ _ _ hP hD hS (lv_sub hl [1, 2, 3, 0] rfl)
    · intro v12 s13 H locs ls hw hP hD hS hl
      have hP : va_P (dC, dI) vwCl (wld_X10_addMarking cI cJ cZ h_p0 ad_p0 p0_places p0_steps p0_pastFirst p0_past p0_goings p0_rowSize p0_ways p0_hasField p0_fieldSize p0_faultNow p0_hasTree p0_treeSize p0_weightCount p0_roundCount p0_setCount p0_by p0_come s13 p0_former (upd s7 r1.toNatClampNeg p0_fieldSize)) H := hP
      have hD : va_D A (wld_X10_addMarking cI cJ cZ h_p0 ad_p0 p0_places p0_steps p0_pastFirst p0_past p0_goings p0_rowSize p0_ways p0_hasField p0_fieldSize p0_faultNow p0_hasTree p0_treeSize p0_weightCount p0_roundCount p0_setCount p0_by p0_come s13 p0_former (upd s7 r1.toNatClampNeg p0_fieldSize)) := hD
      refine lv_aload_n hx hb dX10_addMarking_89 rfl (lv_at hl 0 rfl) ?_
      refine va_get (D := (dC, dI)) (ci := 10) (v := .ref (ad_p0 28)) (C := RX10) (T := TX10) (N := 50) hx hb hts iX10 hown hK hP 0 rfl rfl 28 (by decide) (hts (.fieldLink RX10 69 "NetHouseModel" "former" "[I") (by decide +kernel)) (fun _ h9 => h9) rfl dX10_addMarking_90 ?_
      refine lv_aload_n hx hb dX10_addMarking_93 rfl (lv_at hl 0 rfl) ?_
      refine va_get (D := (dC, dI)) (ci := 10) (v := .int p0_fieldSize) (C := RX10) (T := TX10) (N := 50) hx hb hts iX10 hown hK hP 0 rfl rfl 25 (by decide) (hts (.fieldLink RX10 124 "NetHouseModel" "fieldSize" "I") (by decide +kernel)) (fun _ h9 => h9) rfl dX10_addMarking_94 ?_
      refine lv_iload_n hx hb dX10_addMarking_97 rfl (lv_at hl 1 rfl) ?_
      refine va_iast hx hb hK hP hD hS 4 0 rfl rfl hw.1 dX10_addMarking_98 (fun H locs hP hD hS => ?_)
      have hw := hw.2
      have hP : va_P (dC, dI) vwCl (wld_X10_addMarking cI cJ cZ h_p0 ad_p0 p0_places p0_steps p0_pastFirst p0_past p0_goings p0_rowSize p0_ways p0_hasField p0_fieldSize p0_faultNow p0_hasTree p0_treeSize p0_weightCount p0_roundCount p0_setCount p0_by p0_come s13 (upd p0_former p0_fieldSize.toNatClampNeg a1) (upd s7 r1.toNatClampNeg p0_fieldSize)) H := hP
      have hD : va_D A (wld_X10_addMarking cI cJ cZ h_p0 ad_p0 p0_places p0_steps p0_pastFirst p0_past p0_goings p0_rowSize p0_ways p0_hasField p0_fieldSize p0_faultNow p0_hasTree p0_treeSize p0_weightCount p0_roundCount p0_setCount p0_by p0_come s13 (upd p0_former p0_fieldSize.toNatClampNeg a1) (upd s7 r1.toNatClampNeg p0_fieldSize)) := hD
      refine lv_aload_n hx hb dX10_addMarking_99 rfl (lv_at hl 0 rfl) ?_
      refine va_get (D := (dC, dI)) (ci := 10) (v := .ref (ad_p0 29)) (C := RX10) (T := TX10) (N := 50) hx hb hts iX10 hown hK hP 0 rfl rfl 29 (by decide) (hts (.fieldLink RX10 72 "NetHouseModel" "by" "[I") (by decide +kernel)) (fun _ h9 => h9) rfl dX10_addMarking_100 ?_
      refine lv_aload_n hx hb dX10_addMarking_103 rfl (lv_at hl 0 rfl) ?_
      refine va_get (D := (dC, dI)) (ci := 10) (v := .int p0_fieldSize) (C := RX10) (T := TX10) (N := 50) hx hb hts iX10 hown hK hP 0 rfl rfl 25 (by decide) (hts (.fieldLink RX10 124 "NetHouseModel" "fieldSize" "I") (by decide +kernel)) (fun _ h9 => h9) rfl dX10_addMarking_104 ?_
      refine lv_iload_n hx hb dX10_addMarking_107 rfl (lv_at hl 2 rfl) ?_
      refine va_iast hx hb hK hP hD hS 1 0 rfl rfl hw.1 dX10_addMarking_108 (fun H locs hP hD hS => ?_)
      have hw := hw.2
      have hP : va_P (dC, dI) vwCl (wld_X10_addMarking cI cJ cZ h_p0 ad_p0 p0_places p0_steps p0_pastFirst p0_past p0_goings p0_rowSize p0_ways p0_hasField p0_fieldSize p0_faultNow p0_hasTree p0_treeSize p0_weightCount p0_roundCount p0_setCount (upd p0_by p0_fieldSize.toNatClampNeg a2) p0_come s13 (upd p0_former p0_fieldSize.toNatClampNeg a1) (upd s7 r1.toNatClampNeg p0_fieldSize)) H := hP
      have hD : va_D A (wld_X10_addMarking cI cJ cZ h_p0 ad_p0 p0_places p0_steps p0_pastFirst p0_past p0_goings p0_rowSize p0_ways p0_hasField p0_fieldSize p0_faultNow p0_hasTree p0_treeSize p0_weightCount p0_roundCount p0_setCount (upd p0_by p0_fieldSize.toNatClampNeg a2) p0_come s13 (upd p0_former p0_fieldSize.toNatClampNeg a1) (upd s7 r1.toNatClampNeg p0_fieldSize)) := hD
      refine lv_aload_n hx hb dX10_addMarking_109 rfl (lv_at hl 0 rfl) ?_
      refine lv_dup hx hb dX10_addMarking_110 rfl ?_
      refine va_get (D := (dC, dI)) (ci := 10) (v := .int p0_fieldSize) (C := RX10) (T := TX10) (N := 50) hx hb hts iX10 hown hK hP 0 rfl rfl 25 (by decide) (hts (.fieldLink RX10 124 "NetHouseModel" "fieldSize" "I") (by decide +kernel)) (fun _ h9 => h9) rfl dX10_addMarking_111 ?_
      refine lv_iconst (v := 1) hx hb dX10_addMarking_114 (by decide) ?_
      refine lv_iadd hx hb dX10_addMarking_115 ?_
      refine lv_topi (fun x14 ex14 => ?_)
      have hw := hw x14 ex14
      refine va_put (D := (dC, dI)) (ci := 10) (v := .int x14) (ty := .int) (C := RX10) (T := TX10) (N := 50) hx hb hts iX10 tyX10 tyX10_ok nmX10 hown hK hP hD hS 0 rfl rfl 25 (by decide) (hts (.fieldLink RX10 124 "NetHouseModel" "fieldSize" "I") (by decide +kernel)) (fun _ h9 => h9) rfl (by decide +kernel) rfl rfl (Nat.le_of_ble_eq_true rfl) dX10_addMarking_116 (fun H locs hP hD hS => ?_)
      have hP : va_P (dC, dI) vwCl (wld_X10_addMarking cI cJ cZ h_p0 ad_p0 p0_places p0_steps p0_pastFirst p0_past p0_goings p0_rowSize p0_ways p0_hasField x14 p0_faultNow p0_hasTree p0_treeSize p0_weightCount p0_roundCount p0_setCount (upd p0_by p0_fieldSize.toNatClampNeg a2) p0_come s13 (upd p0_former p0_fieldSize.toNatClampNeg a1) (upd s7 r1.toNatClampNeg p0_fieldSize)) H := hP
      have hD : va_D A (wld_X10_addMarking cI cJ cZ h_p0 ad_p0 p0_places p0_steps p0_pastFirst p0_past p0_goings p0_rowSize p0_ways p0_hasField x14 p0_faultNow p0_hasTree p0_treeSize p0_weightCount p0_roundCount p0_setCount (upd p0_by p0_fieldSize.toNatClampNeg a2) p0_come s13 (upd p0_former p0_fieldSize.toNatClampNeg a1) (upd s7 r1.toNatClampNeg p0_fieldSize)) := hD
      exact x_vret (w1 := fun (u : (Int32) × (Nat → Int32) × (Nat → Int32) × (Nat → Int32) × (Nat → Int32)) => (wld_X10_addMarking cI cJ cZ h_p0 ad_p0 p0_places p0_steps p0_pastFirst p0_past p0_goings p0_rowSize p0_ways p0_hasField (u.1) p0_faultNow p0_hasTree p0_treeSize p0_weightCount p0_roundCount p0_setCount (u.2.1) p0_come (u.2.2.1) (u.2.2.2.1) (u.2.2.2.2))) hx hb hr hlocks (x14, (upd p0_by p0_fieldSize.toNatClampNeg a2), s13, (upd p0_former p0_fieldSize.toNatClampNeg a1), (upd s7 r1.toNatClampNeg p0_fieldSize)) hw hP hD hS dX10_addMarking_119
