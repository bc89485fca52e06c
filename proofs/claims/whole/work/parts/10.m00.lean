abbrev wld_X0_has (cI cJ cZ : ClassId) (h_p0 : Nat) (ad_p0 : Nat → Nat) (p0_rows : Int32) (p0_size : Int32) : va_W := [(h_p0, .inr (0, [.ref (ad_p0 0), .ref (ad_p0 1), .ref (ad_p0 2), .int p0_rows, .int p0_size]))]
abbrev q_X0_has (dC : Nat → ClassId) (dI : Nat → Nat → Nat) (cI cJ cZ : ClassId) (h_p0 : Nat) (ad_p0 : Nat → Nat) (p0_rows : Int32) (p0_size : Int32) (post : Int32 → Prop) (A : Nat → Prop) : Array Value → State → Outcome → State → Prop := va_Qi (fun r (u : Unit) => post r ) (fun (u : Unit) t => xPost (dC, dI) A (wld_X0_has cI cJ cZ h_p0 ad_p0 p0_rows p0_size) t) A
def w_X0_has (p0_size : Int32) (a1 : Int32) (post : Int32 → Prop) : Prop :=
  (a1 < 0 →
    (post (0 : Int32))) ∧
  (¬ a1 < 0 →
    (p0_size ≤ a1 →
      (post (0 : Int32))) ∧
    (¬ p0_size ≤ a1 →
      (post (1 : Int32))))
set_option maxHeartbeats 4000000 in
set_option maxRecDepth 100000 in
theorem c_X0_has {l : Launch} {dC : Nat → ClassId} {dI : Nat → Nat → Nat} {sz : Nat} {cI cJ cZ : ClassId} {h_p0 : Nat} {ad_p0 : Nat → Nat} {p0_rows : Int32} {p0_size : Int32} {a1 : Int32} {post : Int32 → Prop} (hw : w_X0_has p0_size a1 post) : Met l yX0_has wsX0_has ({ frames := 0, cells := 0, slots := 0, locals := 0 }) (va_Pc [.ref h_p0, .int a1] (xPre (dC, dI) cI cJ cZ (wld_X0_has cI cJ cZ h_p0 ad_p0 p0_rows p0_size) sz)) (q_X0_has dC dI cI cJ cZ h_p0 ad_p0 p0_rows p0_size post (va_A (wld_X0_has cI cJ cZ h_p0 ad_p0 p0_rows p0_size) sz)) 0 0 (va_A (wld_X0_has cI cJ cZ h_p0 ad_p0 p0_rows p0_size) sz) := by
  refine x_met (cc := cX0_has) (maxL := 2) (ret := (some .boolean)) (own := RX0) (Qc := fun A => (q_X0_has dC dI cI cJ cZ h_p0 ad_p0 p0_rows p0_size post A)) (by decide) rfl rfl (Nat.le_of_ble_eq_true rfl) ?_
  intro p e s m args below meth c A ls E0 hP hD hS hl
  obtain ⟨hx, hb, hr, hml, hown, hts, hlocks, hK, hA, n1, n2⟩ := id E0
  have iX0 : ∀ w ∈ u_ws RX0 TX0 5, w ∈ wsX0_has := fun w h => List.mem_cons_of_mem _ (List.mem_append_right _ h)
  have hS0 := hS
  have hl : lv_has ls 2 [(0, .ref h_p0), (1, .int a1)] := hl
  unfold w_X0_has at hw
  obtain ⟨H, hH⟩ : ∃ H, H = s.heap := ⟨_, rfl⟩
  have hS : va_S A s.heap H [] := by rw [hH]; exact hS
  have hP : va_P (dC, dI) vwCl (wld_X0_has cI cJ cZ h_p0 ad_p0 p0_rows p0_size) H := by rw [hH]; exact hP
  suffices hG : W p l e ({ frames := 0, cells := 0, slots := 0, locals := 0 }) s m args below meth c H [] 0 0 (MQ below (q_X0_has dC dI cI cJ cZ h_p0 ad_p0 p0_rows p0_size post A) args s 0 0 A) (F0 m 0 ls []) by rw [hH] at hG; exact hG
  clear hH
  refine lv_iload_n hx hb dX0_has_0 rfl (lv_at hl 1 rfl) ?_
  refine lv_if_lt (tgt := 16) hx hb dX0_has_1 (by decide) (fun c1 => ?_) (fun c2 => ?_)
  · have hw := hw.1 c1
    refine lv_iconst (v := 0) hx hb dX0_has_16 (by decide) ?_
    exact x_zret (w1 := fun (u : Unit) => (wld_X0_has cI cJ cZ h_p0 ad_p0 p0_rows p0_size)) hx hb hr hlocks (by decide) () hw hP hD hS dX0_has_17
  · have hw := hw.2 c2
    refine lv_iload_n hx hb dX0_has_4 rfl (lv_at hl 1 rfl) ?_
    refine lv_aload_n hx hb dX0_has_5 rfl (lv_at hl 0 rfl) ?_
    refine va_get (D := (dC, dI)) (ci := 0) (v := .int p0_size) (C := RX0) (T := TX0) (N := 5) hx hb hts iX0 hown hK hP 0 rfl rfl 4 (by decide) (hts (.fieldLink RX0 26 "NetHouse$Balance" "size" "I") (by decide +kernel)) (fun _ h9 => h9) rfl dX0_has_6 ?_
    refine lv_icmp_ge (tgt := 16) hx hb dX0_has_9 (by decide) (fun c3 => ?_) (fun c4 => ?_)
    · have hw := hw.1 c3
      refine lv_iconst (v := 0) hx hb dX0_has_16 (by decide) ?_
      exact x_zret (w1 := fun (u : Unit) => (wld_X0_has cI cJ cZ h_p0 ad_p0 p0_rows p0_size)) hx hb hr hlocks (by decide) () hw hP hD hS dX0_has_17
    · have hw := hw.2 c4
      refine lv_iconst (v := 1) hx hb dX0_has_12 (by decide) ?_
      refine lv_goto (tgt := 17) hx hb dX0_has_13 (by decide) ?_
      exact x_zret (w1 := fun (u : Unit) => (wld_X0_has cI cJ cZ h_p0 ad_p0 p0_rows p0_size)) hx hb hr hlocks (by decide) () hw hP hD hS dX0_has_17
abbrev wld_X0_numberAt (cI cJ cZ : ClassId) (h_p0 : Nat) (ad_p0 : Nat → Nat) (p0_rows : Int32) (p0_size : Int32) (p0_found : Nat → Int32) : va_W := [(h_p0, .inr (0, [.ref (ad_p0 0), .ref (ad_p0 1), .ref (ad_p0 2), .int p0_rows, .int p0_size])), ((ad_p0 2), .inl (cI, 256, .inl p0_found))]
abbrev q_X0_numberAt (dC : Nat → ClassId) (dI : Nat → Nat → Nat) (cI cJ cZ : ClassId) (h_p0 : Nat) (ad_p0 : Nat → Nat) (p0_rows : Int32) (p0_size : Int32) (p0_found : Nat → Int32) (post : Int32 → Prop) (A : Nat → Prop) : Array Value → State → Outcome → State → Prop := va_Qi (fun r (u : Unit) => post r ) (fun (u : Unit) t => xPost (dC, dI) A (wld_X0_numberAt cI cJ cZ h_p0 ad_p0 p0_rows p0_size p0_found) t) A
def w_X0_numberAt (p0_found : Nat → Int32) (a1 : Int32) (a2 : Int32) (post : Int32 → Prop) : Prop :=
  vp_in ((a1 * (16 : Int32)) + a2) 256 ∧
  (post (p0_found ((a1 * (16 : Int32)) + a2).toNatClampNeg))
set_option maxHeartbeats 4000000 in
set_option maxRecDepth 100000 in
theorem c_X0_numberAt {l : Launch} {dC : Nat → ClassId} {dI : Nat → Nat → Nat} {sz : Nat} {cI cJ cZ : ClassId} {h_p0 : Nat} {ad_p0 : Nat → Nat} {p0_rows : Int32} {p0_size : Int32} {p0_found : Nat → Int32} {a1 : Int32} {a2 : Int32} {post : Int32 → Prop} (hw : w_X0_numberAt p0_found a1 a2 post) : Met l yX0_numberAt wsX0_numberAt ({ frames := 0, cells := 0, slots := 0, locals := 0 }) (va_Pc [.ref h_p0, .int a1, .int a2] (xPre (dC, dI) cI cJ cZ (wld_X0_numberAt cI cJ cZ h_p0 ad_p0 p0_rows p0_size p0_found) sz)) (q_X0_numberAt dC dI cI cJ cZ h_p0 ad_p0 p0_rows p0_size p0_found post (va_A (wld_X0_numberAt cI cJ cZ h_p0 ad_p0 p0_rows p0_size p0_found) sz)) 0 0 (va_A (wld_X0_numberAt cI cJ cZ h_p0 ad_p0 p0_rows p0_size p0_found) sz) := by
  refine x_met (cc := cX0_numberAt) (maxL := 3) (ret := (some .int)) (own := RX0) (Qc := fun A => (q_X0_numberAt dC dI cI cJ cZ h_p0 ad_p0 p0_rows p0_size p0_found post A)) (by decide) rfl rfl (Nat.le_of_ble_eq_true rfl) ?_
  intro p e s m args below meth c A ls E0 hP hD hS hl
  obtain ⟨hx, hb, hr, hml, hown, hts, hlocks, hK, hA, n1, n2⟩ := id E0
  have iX0 : ∀ w ∈ u_ws RX0 TX0 5, w ∈ wsX0_numberAt := fun w h => List.mem_cons_of_mem _ (List.mem_append_right _ h)
  have hS0 := hS
  have hl : lv_has ls 3 [(0, .ref h_p0), (1, .int a1), (2, .int a2)] := hl
  unfold w_X0_numberAt at hw
  obtain ⟨H, hH⟩ : ∃ H, H = s.heap := ⟨_, rfl⟩
  have hS : va_S A s.heap H [] := by rw [hH]; exact hS
  have hP : va_P (dC, dI) vwCl (wld_X0_numberAt cI cJ cZ h_p0 ad_p0 p0_rows p0_size p0_found) H := by rw [hH]; exact hP
  suffices hG : W p l e ({ frames := 0, cells := 0, slots := 0, locals := 0 }) s m args below meth c H [] 0 0 (MQ below (q_X0_numberAt dC dI cI cJ cZ h_p0 ad_p0 p0_rows p0_size p0_found post A) args s 0 0 A) (F0 m 0 ls []) by rw [hH] at hG; exact hG
  clear hH
  refine lv_aload_n hx hb dX0_numberAt_0 rfl (lv_at hl 0 rfl) ?_
  refine va_get (D := (dC, dI)) (ci := 0) (v := .ref (ad_p0 2)) (C := RX0) (T := TX0) (N := 5) hx hb hts iX0 hown hK hP 0 rfl rfl 2 (by decide) (hts (.fieldLink RX0 19 "NetHouse$Balance" "found" "[I") (by decide +kernel)) (fun _ h9 => h9) rfl dX0_numberAt_1 ?_
  refine lv_iload_n hx hb dX0_numberAt_4 rfl (lv_at hl 1 rfl) ?_
  refine lv_bipush (v := 16) hx hb dX0_numberAt_5 (by decide) ?_
  refine lv_imul hx hb dX0_numberAt_7 ?_
  refine lv_iload_n hx hb dX0_numberAt_8 rfl (lv_at hl 2 rfl) ?_
  refine lv_iadd hx hb dX0_numberAt_9 ?_
  refine va_iald hx hb hK hP 1 0 rfl rfl hw.1 dX0_numberAt_10 ?_
  have hw := hw.2
  exact x_iret (w1 := fun (u : Unit) => (wld_X0_numberAt cI cJ cZ h_p0 ad_p0 p0_rows p0_size p0_found)) hx hb hr hlocks () hw hP hD hS dX0_numberAt_11
abbrev wld_J7_fill_53178 (cI cJ cZ : ClassId) (h_p0 : Nat) (n_p0 : Nat) (p0 : Nat → Int32) : va_W := [(h_p0, .inl (cI, n_p0, .inl p0))]
abbrev q_J7_fill_53178 (dC : Nat → ClassId) (dI : Nat → Nat → Nat) (cI cJ cZ : ClassId) (h_p0 : Nat) (n_p0 : Nat) (p0 : Nat → Int32) (post : (Nat → Int32) → Prop) (A : Nat → Prop) : Array Value → State → Outcome → State → Prop := va_Qv (fun (u : (Nat → Int32)) => post u) (fun (u : (Nat → Int32)) t => xPost (dC, dI) A (wld_J7_fill_53178 cI cJ cZ h_p0 n_p0 u) t) A
def w_J7_fill_53178_L5b (n_p0 : Nat) (v1 : Int32) (v3 : Int32) (post : (Nat → Int32) → Prop) (K : (Int32) → (Nat → Int32) → Prop) (rec : (Int32) → (Nat → Int32) → Prop) (v2 : Int32) (p0 : Nat → Int32) : Prop :=
    (v3 ≤ v2 →
      K v2 p0) ∧
    (¬ v3 ≤ v2 →
      vp_in v2 n_p0 ∧
      ∀ x4 : Int32, x4 = v2 + (1 : Int32) →
      rec x4 (upd p0 v2.toNatClampNeg v1))
def w_J7_fill_53178_L5 (n_p0 : Nat) (v1 : Int32) (v3 : Int32) (post : (Nat → Int32) → Prop) (K : (Int32) → (Nat → Int32) → Prop) : Nat → (Int32) → (Nat → Int32) → Prop
  | 0, _, _ => False
  | n + 1, v2, p0 => w_J7_fill_53178_L5b n_p0 v1 v3 post K (w_J7_fill_53178_L5 n_p0 v1 v3 post K n) v2 p0
def w_J7_fill_53178 (n_p0 : Nat) (p0 : Nat → Int32) (a1 : Int32) (post : (Nat → Int32) → Prop) : Prop :=
  ∀ x1 : Int32, x1 = (nI n_p0) →
  ∃ n : Nat, w_J7_fill_53178_L5 n_p0 a1 x1 post (fun v6 s7 =>
      (post s7)) n (0 : Int32) p0
set_option maxHeartbeats 4000000 in
set_option maxRecDepth 100000 in
theorem c_J7_fill_53178_L5 {p : Program} {l : Launch} {e : Env} {s : State} {m : MethodId} {args : Array Value} {below : List Frame} {meth : Method} {c : Code} {dC : Nat → ClassId} {dI : Nat → Nat → Nat} {A : Nat → Prop} {cI cJ cZ : ClassId} {h_p0 : Nat} {n_p0 : Nat} {v1 : Int32} {v3 : Int32} {z_p0 : Nat → Int32} {post : (Nat → Int32) → Prop} {K : (Int32) → (Nat → Int32) → Prop} (E0 : xEnv p s m args meth c cJ7_fill_53178 none 4 RJ7 wsJ7_fill_53178 (dC, dI) cI cJ cZ A) (hk : ∀ (v2 : Int32) (p0 : Nat → Int32) (H : Heap) (locs : List Loc) (ls : Array Slot), K v2 p0 → va_P (dC, dI) vwCl (wld_J7_fill_53178 cI cJ cZ h_p0 n_p0 p0) H → va_D A (wld_J7_fill_53178 cI cJ cZ h_p0 n_p0 p0) → va_S A s.heap H locs → lv_has ls 4 [] → W p l e ({ frames := 0, cells := 0, slots := 0, locals := 0 }) s m args below meth c H locs 0 0 (MQ below (q_J7_fill_53178 dC dI cI cJ cZ h_p0 n_p0 z_p0 post A) args s 0 0 A) (F0 m 20 ls [])) : ∀ (n : Nat) (v2 : Int32) (p0 : Nat → Int32), w_J7_fill_53178_L5 n_p0 v1 v3 post K n v2 p0 → ∀ (H : Heap) (locs : List Loc) (ls : Array Slot), va_P (dC, dI) vwCl (wld_J7_fill_53178 cI cJ cZ h_p0 n_p0 p0) H → va_D A (wld_J7_fill_53178 cI cJ cZ h_p0 n_p0 p0) → va_S A s.heap H locs → lv_has ls 4 [(0, .ref h_p0), (1, .int v1), (2, .int v2), (3, .int v3)] → W p l e ({ frames := 0, cells := 0, slots := 0, locals := 0 }) s m args below meth c H locs 0 0 (MQ below (q_J7_fill_53178 dC dI cI cJ cZ h_p0 n_p0 z_p0 post A) args s 0 0 A) (F0 m 5 ls []) := by
  obtain ⟨hx, hb, hr, hml, hown, hts, hlocks, hK, hA, n1, n2⟩ := id E0
  intro n
  induction n with
  | zero => intro v2 p0 hw; exact hw.elim
  | succ n ih =>
    intro v2 p0 hw H locs ls hP hD hS hl
    have hw : w_J7_fill_53178_L5b n_p0 v1 v3 post K (w_J7_fill_53178_L5 n_p0 v1 v3 post K n) v2 p0 := hw
    unfold w_J7_fill_53178_L5b at hw
    refine lv_iload_n hx hb dJ7_fill_53178_5 rfl (lv_at hl 2 rfl) ?_
    refine lv_iload_n hx hb dJ7_fill_53178_6 rfl (lv_at hl 3 rfl) ?_
    refine lv_icmp_ge (tgt := 20) hx hb dJ7_fill_53178_7 (by decide) (fun c2 => ?_) (fun c3 => ?_)
    · have hw := hw.1 c2
      exact hk _ _ _ _ _ hw hP hD hS (lv_sub hl [] rfl)
    · have hw := hw.2 c3
      refine lv_aload_n hx hb dJ7_fill_53178_10 rfl (lv_at hl 0 rfl) ?_
      refine lv_iload_n hx hb dJ7_fill_53178_11 rfl (lv_at hl 2 rfl) ?_
      refine lv_iload_n hx hb dJ7_fill_53178_12 rfl (lv_at hl 1 rfl) ?_
      refine va_iast hx hb hK hP hD hS 0 0 rfl rfl hw.1 dJ7_fill_53178_13 (fun H locs hP hD hS => ?_)
      have hw := hw.2
      have hP : va_P (dC, dI) vwCl (wld_J7_fill_53178 cI cJ cZ h_p0 n_p0 (upd p0 v2.toNatClampNeg v1)) H := hP
      have hD : va_D A (wld_J7_fill_53178 cI cJ cZ h_p0 n_p0 (upd p0 v2.toNatClampNeg v1)) := hD
      obtain ⟨x4, ex4⟩ : ∃ y : Int32, y = v2 + (1 : Int32) := ⟨_, rfl⟩
      have hw := hw x4 ex4
      refine lv_iinc (v := x4) (lv' := [(2, .int x4), (0, .ref h_p0), (1, .int v1), (3, .int v3)]) hx hb dJ7_fill_53178_14 hl (k := 2) rfl (by rw [ex4]; rfl) (by decide) rfl (fun ls hl => ?_)
      refine lv_goto (tgt := 5) hx hb dJ7_fill_53178_17 (by decide) ?_
      exact ih _ _ hw _ _ _ hP hD hS (lv_sub hl [1, 2, 0, 3] rfl)
set_option maxHeartbeats 4000000 in
set_option maxRecDepth 100000 in
theorem c_J7_fill_53178 {l : Launch} {dC : Nat → ClassId} {dI : Nat → Nat → Nat} {sz : Nat} {cI cJ cZ : ClassId} {h_p0 : Nat} {n_p0 : Nat} {p0 : Nat → Int32} {a1 : Int32} {post : (Nat → Int32) → Prop} (hw : w_J7_fill_53178 n_p0 p0 a1 post) : Met l yJ7_fill_53178 wsJ7_fill_53178 ({ frames := 0, cells := 0, slots := 0, locals := 0 }) (va_Pc [.ref h_p0, .int a1] (xPre (dC, dI) cI cJ cZ (wld_J7_fill_53178 cI cJ cZ h_p0 n_p0 p0) sz)) (q_J7_fill_53178 dC dI cI cJ cZ h_p0 n_p0 p0 post (va_A (wld_J7_fill_53178 cI cJ cZ h_p0 n_p0 p0) sz)) 0 0 (va_A (wld_J7_fill_53178 cI cJ cZ h_p0 n_p0 p0) sz) := by
  refine x_met (cc := cJ7_fill_53178) (maxL := 4) (ret := none) (own := RJ7) (Qc := fun A => (q_J7_fill_53178 dC dI cI cJ cZ h_p0 n_p0 p0 post A)) (by decide) rfl rfl (Nat.le_of_ble_eq_true rfl) ?_
  intro p e s m args below meth c A ls E0 hP hD hS hl
  obtain ⟨hx, hb, hr, hml, hown, hts, hlocks, hK, hA, n1, n2⟩ := id E0
  have hS0 := hS
  have hl : lv_has ls 4 [(0, .ref h_p0), (1, .int a1)] := hl
  unfold w_J7_fill_53178 at hw
  obtain ⟨H, hH⟩ : ∃ H, H = s.heap := ⟨_, rfl⟩
  have hS : va_S A s.heap H [] := by rw [hH]; exact hS
  have hP : va_P (dC, dI) vwCl (wld_J7_fill_53178 cI cJ cZ h_p0 n_p0 p0) H := by rw [hH]; exact hP
  suffices hG : W p l e ({ frames := 0, cells := 0, slots := 0, locals := 0 }) s m args below meth c H [] 0 0 (MQ below (q_J7_fill_53178 dC dI cI cJ cZ h_p0 n_p0 p0 post A) args s 0 0 A) (F0 m 0 ls []) by rw [hH] at hG; exact hG
  clear hH
  refine lv_iconst (v := 0) hx hb dJ7_fill_53178_0 (by decide) ?_
  refine lv_istore_n (lv' := [(2, .int (0 : Int32)), (0, .ref h_p0), (1, .int a1)]) hx hb dJ7_fill_53178_1 rfl hl (by decide) rfl (fun ls hl => ?_)
  refine lv_aload_n hx hb dJ7_fill_53178_2 rfl (lv_at hl 1 rfl) ?_
  refine va_alen (v := nI n_p0) hx hb hK hP 0 0 rfl rfl rfl dJ7_fill_53178_3 ?_
  refine lv_topi (fun x1 ex1 => ?_)
  have hw := hw x1 ex1
  refine lv_istore_n (lv' := [(3, .int x1), (2, .int (0 : Int32)), (0, .ref h_p0), (1, .int a1)]) hx hb dJ7_fill_53178_4 rfl hl (by decide) rfl (fun ls hl => ?_)
  obtain ⟨n5, hw⟩ := hw
  refine c_J7_fill_53178_L5 (l := l) (z_p0 := p0) E0 ?_ n5 _ _ hw _ _ _ hP hD hS (lv_sub hl [2, 3, 1, 0] rfl)
  · intro v6 s7 H locs ls hw hP hD hS hl
    have hP : va_P (dC, dI) vwCl (wld_J7_fill_53178 cI cJ cZ h_p0 n_p0 s7) H := hP
    have hD : va_D A (wld_J7_fill_53178 cI cJ cZ h_p0 n_p0 s7) := hD
    exact x_vret (w1 := fun (u : (Nat → Int32)) => (wld_J7_fill_53178 cI cJ cZ h_p0 n_p0 u)) hx hb hr hlocks (s7) hw hP hD hS dJ7_fill_53178_20
abbrev wld_J7_fill_d0a16 (cI cJ cZ : ClassId) (h_p0 : Nat) (n_p0 : Nat) (p0 : Nat → Int64) : va_W := [(h_p0, .inl (cJ, n_p0, .inr (.inl p0)))]
abbrev q_J7_fill_d0a16 (dC : Nat → ClassId) (dI : Nat → Nat → Nat) (cI cJ cZ : ClassId) (h_p0 : Nat) (n_p0 : Nat) (p0 : Nat → Int64) (post : (Nat → Int64) → Prop) (A : Nat → Prop) : Array Value → State → Outcome → State → Prop := va_Qv (fun (u : (Nat → Int64)) => post u) (fun (u : (Nat → Int64)) t => xPost (dC, dI) A (wld_J7_fill_d0a16 cI cJ cZ h_p0 n_p0 u) t) A
def w_J7_fill_d0a16_L6b (n_p0 : Nat) (v1 : Int64) (v4 : Int32) (post : (Nat → Int64) → Prop) (K : (Int32) → (Nat → Int64) → Prop) (rec : (Int32) → (Nat → Int64) → Prop) (v3 : Int32) (p0 : Nat → Int64) : Prop :=
    (v4 ≤ v3 →
      K v3 p0) ∧
    (¬ v4 ≤ v3 →
      vp_in v3 n_p0 ∧
      ∀ x4 : Int32, x4 = v3 + (1 : Int32) →
      rec x4 (vp_updL p0 v3.toNatClampNeg v1))
def w_J7_fill_d0a16_L6 (n_p0 : Nat) (v1 : Int64) (v4 : Int32) (post : (Nat → Int64) → Prop) (K : (Int32) → (Nat → Int64) → Prop) : Nat → (Int32) → (Nat → Int64) → Prop
  | 0, _, _ => False
  | n + 1, v3, p0 => w_J7_fill_d0a16_L6b n_p0 v1 v4 post K (w_J7_fill_d0a16_L6 n_p0 v1 v4 post K n) v3 p0
def w_J7_fill_d0a16 (n_p0 : Nat) (p0 : Nat → Int64) (a1 : Int64) (post : (Nat → Int64) → Prop) : Prop :=
  ∀ x1 : Int32, x1 = (nI n_p0) →
  ∃ n : Nat, w_J7_fill_d0a16_L6 n_p0 a1 x1 post (fun v6 s7 =>
      (post s7)) n (0 : Int32) p0
set_option maxHeartbeats 4000000 in
set_option maxRecDepth 100000 in
theorem c_J7_fill_d0a16_L6 {p : Program} {l : Launch} {e : Env} {s : State} {m : MethodId} {args : Array Value} {below : List Frame} {meth : Method} {c : Code} {dC : Nat → ClassId} {dI : Nat → Nat → Nat} {A : Nat → Prop} {cI cJ cZ : ClassId} {h_p0 : Nat} {n_p0 : Nat} {v1 : Int64} {v4 : Int32} {z_p0 : Nat → Int64} {post : (Nat → Int64) → Prop} {K : (Int32) → (Nat → Int64) → Prop} (E0 : xEnv p s m args meth c cJ7_fill_d0a16 none 5 RJ7 wsJ7_fill_d0a16 (dC, dI) cI cJ cZ A) (hk : ∀ (v3 : Int32) (p0 : Nat → Int64) (H : Heap) (locs : List Loc) (ls : Array Slot), K v3 p0 → va_P (dC, dI) vwCl (wld_J7_fill_d0a16 cI cJ cZ h_p0 n_p0 p0) H → va_D A (wld_J7_fill_d0a16 cI cJ cZ h_p0 n_p0 p0) → va_S A s.heap H locs → lv_has ls 5 [] → W p l e ({ frames := 0, cells := 0, slots := 0, locals := 0 }) s m args below meth c H locs 0 0 (MQ below (q_J7_fill_d0a16 dC dI cI cJ cZ h_p0 n_p0 z_p0 post A) args s 0 0 A) (F0 m 22 ls [])) : ∀ (n : Nat) (v3 : Int32) (p0 : Nat → Int64), w_J7_fill_d0a16_L6 n_p0 v1 v4 post K n v3 p0 → ∀ (H : Heap) (locs : List Loc) (ls : Array Slot), va_P (dC, dI) vwCl (wld_J7_fill_d0a16 cI cJ cZ h_p0 n_p0 p0) H → va_D A (wld_J7_fill_d0a16 cI cJ cZ h_p0 n_p0 p0) → va_S A s.heap H locs → lv_has ls 5 [(0, .ref h_p0), (1, .long v1), (3, .int v3), (4, .int v4)] → W p l e ({ frames := 0, cells := 0, slots := 0, locals := 0 }) s m args below meth c H locs 0 0 (MQ below (q_J7_fill_d0a16 dC dI cI cJ cZ h_p0 n_p0 z_p0 post A) args s 0 0 A) (F0 m 6 ls []) := by
  obtain ⟨hx, hb, hr, hml, hown, hts, hlocks, hK, hA, n1, n2⟩ := id E0
  intro n
  induction n with
  | zero => intro v3 p0 hw; exact hw.elim
  | succ n ih =>
    intro v3 p0 hw H locs ls hP hD hS hl
    have hw : w_J7_fill_d0a16_L6b n_p0 v1 v4 post K (w_J7_fill_d0a16_L6 n_p0 v1 v4 post K n) v3 p0 := hw
    unfold w_J7_fill_d0a16_L6b at hw
    refine lv_iload_n hx hb dJ7_fill_d0a16_6 rfl (lv_at hl 2 rfl) ?_
    refine lv_iload hx hb dJ7_fill_d0a16_7 (lv_at hl 3 rfl) ?_
    refine lv_icmp_ge (tgt := 22) hx hb dJ7_fill_d0a16_9 (by decide) (fun c2 => ?_) (fun c3 => ?_)
    · have hw := hw.1 c2
      exact hk _ _ _ _ _ hw hP hD hS (lv_sub hl [] rfl)
    · have hw := hw.2 c3
      refine lv_aload_n hx hb dJ7_fill_d0a16_12 rfl (lv_at hl 0 rfl) ?_
      refine lv_iload_n hx hb dJ7_fill_d0a16_13 rfl (lv_at hl 2 rfl) ?_
      refine lv_lload_n hx hb dJ7_fill_d0a16_14 rfl (lv_at hl 1 rfl) ?_
      refine va_last hx hb hK hP hD hS 0 1 rfl rfl hw.1 dJ7_fill_d0a16_15 (fun H locs hP hD hS => ?_)
      have hw := hw.2
      have hP : va_P (dC, dI) vwCl (wld_J7_fill_d0a16 cI cJ cZ h_p0 n_p0 (vp_updL p0 v3.toNatClampNeg v1)) H := hP
      have hD : va_D A (wld_J7_fill_d0a16 cI cJ cZ h_p0 n_p0 (vp_updL p0 v3.toNatClampNeg v1)) := hD
      obtain ⟨x4, ex4⟩ : ∃ y : Int32, y = v3 + (1 : Int32) := ⟨_, rfl⟩
      have hw := hw x4 ex4
      refine lv_iinc (v := x4) (lv' := [(3, .int x4), (0, .ref h_p0), (1, .long v1), (4, .int v4)]) hx hb dJ7_fill_d0a16_16 hl (k := 2) rfl (by rw [ex4]; rfl) (by decide) rfl (fun ls hl => ?_)
      refine lv_goto (tgt := 6) hx hb dJ7_fill_d0a16_19 (by decide) ?_
      exact ih _ _ hw _ _ _ hP hD hS (lv_sub hl [1, 2, 0, 3] rfl)
set_option maxHeartbeats 4000000 in
set_option maxRecDepth 100000 in
theorem c_J7_fill_d0a16 {l : Launch} {dC : Nat → ClassId} {dI : Nat → Nat → Nat} {sz : Nat} {cI cJ cZ : ClassId} {h_p0 : Nat} {n_p0 : Nat} {p0 : Nat → Int64} {a1 : Int64} {post : (Nat → Int64) → Prop} (hw : w_J7_fill_d0a16 n_p0 p0 a1 post) : Met l yJ7_fill_d0a16 wsJ7_fill_d0a16 ({ frames := 0, cells := 0, slots := 0, locals := 0 }) (va_Pc [.ref h_p0, .long a1] (xPre (dC, dI) cI cJ cZ (wld_J7_fill_d0a16 cI cJ cZ h_p0 n_p0 p0) sz)) (q_J7_fill_d0a16 dC dI cI cJ cZ h_p0 n_p0 p0 post (va_A (wld_J7_fill_d0a16 cI cJ cZ h_p0 n_p0 p0) sz)) 0 0 (va_A (wld_J7_fill_d0a16 cI cJ cZ h_p0 n_p0 p0) sz) := by
  refine x_met (cc := cJ7_fill_d0a16) (maxL := 5) (ret := none) (own := RJ7) (Qc := fun A => (q_J7_fill_d0a16 dC dI cI cJ cZ h_p0 n_p0 p0 post A)) (by decide) rfl rfl (Nat.le_of_ble_eq_true rfl) ?_
  intro p e s m args below meth c A ls E0 hP hD hS hl
  obtain ⟨hx, hb, hr, hml, hown, hts, hlocks, hK, hA, n1, n2⟩ := id E0
  have hS0 := hS
  have hl : lv_has ls 5 [(0, .ref h_p0), (1, .long a1)] := hl
  unfold w_J7_fill_d0a16 at hw
  obtain ⟨H, hH⟩ : ∃ H, H = s.heap := ⟨_, rfl⟩
  have hS : va_S A s.heap H [] := by rw [hH]; exact hS
  have hP : va_P (dC, dI) vwCl (wld_J7_fill_d0a16 cI cJ cZ h_p0 n_p0 p0) H := by rw [hH]; exact hP
  suffices hG : W p l e ({ frames := 0, cells := 0, slots := 0, locals := 0 }) s m args below meth c H [] 0 0 (MQ below (q_J7_fill_d0a16 dC dI cI cJ cZ h_p0 n_p0 p0 post A) args s 0 0 A) (F0 m 0 ls []) by rw [hH] at hG; exact hG
  clear hH
  refine lv_iconst (v := 0) hx hb dJ7_fill_d0a16_0 (by decide) ?_
  refine lv_istore_n (lv' := [(3, .int (0 : Int32)), (0, .ref h_p0), (1, .long a1)]) hx hb dJ7_fill_d0a16_1 rfl hl (by decide) rfl (fun ls hl => ?_)
  refine lv_aload_n hx hb dJ7_fill_d0a16_2 rfl (lv_at hl 1 rfl) ?_
  refine va_alen (v := nI n_p0) hx hb hK hP 0 1 rfl rfl rfl dJ7_fill_d0a16_3 ?_
  refine lv_topi (fun x1 ex1 => ?_)
  have hw := hw x1 ex1
  refine lv_istore (lv' := [(4, .int x1), (3, .int (0 : Int32)), (0, .ref h_p0), (1, .long a1)]) hx hb dJ7_fill_d0a16_4 hl (by decide) rfl (fun ls hl => ?_)
  obtain ⟨n5, hw⟩ := hw
  refine c_J7_fill_d0a16_L6 (l := l) (z_p0 := p0) E0 ?_ n5 _ _ hw _ _ _ hP hD hS (lv_sub hl [2, 3, 1, 0] rfl)
  · intro v6 s7 H locs ls hw hP hD hS hl
    have hP : va_P (dC, dI) vwCl (wld_J7_fill_d0a16 cI cJ cZ h_p0 n_p0 s7) H := hP
    have hD : va_D A (wld_J7_fill_d0a16 cI cJ cZ h_p0 n_p0 s7) := hD
    exact x_vret (w1 := fun (u : (Nat → Int64)) => (wld_J7_fill_d0a16 cI cJ cZ h_p0 n_p0 u)) hx hb hr hlocks (s7) hw hP hD hS dJ7_fill_d0a16_22
abbrev wld_X0_commonDivisor (cI cJ cZ : ClassId) : va_W := []
abbrev q_X0_commonDivisor (dC : Nat → ClassId) (dI : Nat → Nat → Nat) (cI cJ cZ : ClassId) (post : Int64 → Prop) (A : Nat → Prop) : Array Value → State → Outcome → State → Prop := va_Ql (fun r (u : Unit) => post r ) (fun (u : Unit) t => xPost (dC, dI) A (wld_X0_commonDivisor cI cJ cZ) t) A
def w_X0_commonDivisor_L9b  (post : Int64 → Prop) (K : (Int64) → (Int64) → (Int32) → Prop) (rec : (Int64) → (Int64) → (Int32) → Prop) (v4 : Int64) (v6 : Int64) (v8 : Int32) : Prop :=
    ((200 : Int32) ≤ v8 →
      K v4 v6 v8) ∧
    (¬ (200 : Int32) ≤ v8 →
      ((lg_cmp v6 (0 : Int64)) = 0 →
        K v4 v6 v8) ∧
      (¬ (lg_cmp v6 (0 : Int64)) = 0 →
        ¬ v6 = 0 ∧
        ∀ x5 : Int64, x5 = (v4 - v4 / v6 * v6) →
        ∀ x6 : Int32, x6 = v8 + (1 : Int32) →
        rec v6 x5 x6))
def w_X0_commonDivisor_L9  (post : Int64 → Prop) (K : (Int64) → (Int64) → (Int32) → Prop) : Nat → (Int64) → (Int64) → (Int32) → Prop
  | 0, _, _, _ => False
  | n + 1, v4, v6, v8 => w_X0_commonDivisor_L9b  post K (w_X0_commonDivisor_L9  post K n) v4 v6 v8
def w_X0_commonDivisor (a0 : Int64) (a1 : Int64) (post : Int64 → Prop) : Prop :=
  ∃ n : Nat, w_X0_commonDivisor_L9  post (fun v8 v9 v10 =>
      (post v8)) n a0 a1 (0 : Int32)
set_option maxHeartbeats 4000000 in
set_option maxRecDepth 100000 in
theorem c_X0_commonDivisor_L9 {p : Program} {l : Launch} {e : Env} {s : State} {m : MethodId} {args : Array Value} {below : List Frame} {meth : Method} {c : Code} {dC : Nat → ClassId} {dI : Nat → Nat → Nat} {A : Nat → Prop} {cI cJ cZ : ClassId}  {post : Int64 → Prop} {K : (Int64) → (Int64) → (Int32) → Prop} (E0 : xEnv p s m args meth c cX0_commonDivisor (some .long) 11 RX0 wsX0_commonDivisor (dC, dI) cI cJ cZ A) (hk : ∀ (v4 : Int64) (v6 : Int64) (v8 : Int32) (H : Heap) (locs : List Loc) (ls : Array Slot), K v4 v6 v8 → va_P (dC, dI) vwCl (wld_X0_commonDivisor cI cJ cZ) H → va_D A (wld_X0_commonDivisor cI cJ cZ) → va_S A s.heap H locs → lv_has ls 11 [(4, .long v4)] → W p l e ({ frames := 0, cells := 0, slots := 0, locals := 0 }) s m args below meth c H locs 0 0 (MQ below (q_X0_commonDivisor dC dI cI cJ cZ post A) args s 0 0 A) (F0 m 45 ls [])) : ∀ (n : Nat) (v4 : Int64) (v6 : Int64) (v8 : Int32), w_X0_commonDivisor_L9  post K n v4 v6 v8 → ∀ (H : Heap) (locs : List Loc) (ls : Array Slot), va_P (dC, dI) vwCl (wld_X0_commonDivisor cI cJ cZ) H → va_D A (wld_X0_commonDivisor cI cJ cZ) → va_S A s.heap H locs → lv_has ls 11 [(4, .long v4), (6, .long v6), (8, .int v8)] → W p l e ({ frames := 0, cells := 0, slots := 0, locals := 0 }) s m args below meth c H locs 0 0 (MQ below (q_X0_commonDivisor dC dI cI cJ cZ post A) args s 0 0 A) (F0 m 9 ls []) := by
  obtain ⟨hx, hb, hr, hml, hown, hts, hlocks, hK, hA, n1, n2⟩ := id E0
  intro n
  induction n with
  | zero => intro v4 v6 v8 hw; exact hw.elim
  | succ n ih =>
    intro v4 v6 v8 hw H locs ls hP hD hS hl
    have hw : w_X0_commonDivisor_L9b  post K (w_X0_commonDivisor_L9  post K n) v4 v6 v8 := hw
    unfold w_X0_commonDivisor_L9b at hw
    refine lv_iload hx hb dX0_commonDivisor_9 (lv_at hl 2 rfl) ?_
    refine lv_sipush (v := 200) hx hb dX0_commonDivisor_11 (by decide) ?_
    refine lv_icmp_ge (tgt := 45) hx hb dX0_commonDivisor_14 (by decide) (fun c1 => ?_) (fun c2 => ?_)
    · have hw := hw.1 c1
      exact hk _ _ _ _ _ _ hw hP hD hS (lv_sub hl [0] rfl)
    · have hw := hw.2 c2
      refine lv_lload hx hb dX0_commonDivisor_17 (lv_at hl 1 rfl) ?_
      refine lv_lconst (v := 0) hx hb dX0_commonDivisor_19 (by decide) ?_
      refine W.lcmp hx hb dX0_commonDivisor_20 ?_
      refine lv_if_eq (tgt := 45) hx hb dX0_commonDivisor_21 (by decide) (fun c3 => ?_) (fun c4 => ?_)
      · have hw := hw.1 c3
        exact hk _ _ _ _ _ _ hw hP hD hS (lv_sub hl [0] rfl)
      · have hw := hw.2 c4
        refine lv_lload hx hb dX0_commonDivisor_24 (lv_at hl 0 rfl) ?_
        refine lv_lload hx hb dX0_commonDivisor_26 (lv_at hl 1 rfl) ?_
        refine lv_lrem hx hb dX0_commonDivisor_28 hw.1 ?_
        have hw := hw.2
        refine lv_topl (fun x5 ex5 => ?_)
        have hw := hw x5 ex5
        refine lv_lstore (lv' := [(9, .long x5), (4, .long v4), (6, .long v6), (8, .int v8)]) hx hb dX0_commonDivisor_29 hl (by decide) rfl (fun ls hl => ?_)
        refine lv_lload hx hb dX0_commonDivisor_31 (lv_at hl 2 rfl) ?_
        refine lv_lstore (lv' := [(4, .long v6), (9, .long x5), (6, .long v6), (8, .int v8)]) hx hb dX0_commonDivisor_33 hl (by decide) rfl (fun ls hl => ?_)
        refine lv_lload hx hb dX0_commonDivisor_35 (lv_at hl 1 rfl) ?_
        refine lv_lstore (lv' := [(6, .long x5), (4, .long v6), (9, .long x5), (8, .int v8)]) hx hb dX0_commonDivisor_37 hl (by decide) rfl (fun ls hl => ?_)
        obtain ⟨x6, ex6⟩ : ∃ y : Int32, y = v8 + (1 : Int32) := ⟨_, rfl⟩
        have hw := hw x6 ex6
        refine lv_iinc (v := x6) (lv' := [(8, .int x6), (6, .long x5), (4, .long v6), (9, .long x5)]) hx hb dX0_commonDivisor_39 hl (k := 3) rfl (by rw [ex6]; rfl) (by decide) rfl (fun ls hl => ?_)
        refine lv_goto (tgt := 9) hx hb dX0_commonDivisor_42 (by decide) ?_
        exact ih _ _ _ hw _ _ _ hP hD hS (lv_sub hl [2, 1, 0] rfl)
set_option maxHeartbeats 4000000 in
set_option maxRecDepth 100000 in
theorem c_X0_commonDivisor {l : Launch} {dC : Nat → ClassId} {dI : Nat → Nat → Nat} {sz : Nat} {cI cJ cZ : ClassId} {a0 : Int64} {a1 : Int64} {post : Int64 → Prop} (hw : w_X0_commonDivisor a0 a1 post) : Met l yX0_commonDivisor wsX0_commonDivisor ({ frames := 0, cells := 0, slots := 0, locals := 0 }) (va_Pc [.long a0, .long a1] (xPre (dC, dI) cI cJ cZ (wld_X0_commonDivisor cI cJ cZ) sz)) (q_X0_commonDivisor dC dI cI cJ cZ post (va_A (wld_X0_commonDivisor cI cJ cZ) sz)) 0 0 (va_A (wld_X0_commonDivisor cI cJ cZ) sz) := by
  refine x_met (cc := cX0_commonDivisor) (maxL := 11) (ret := (some .long)) (own := RX0) (Qc := fun A => (q_X0_commonDivisor dC dI cI cJ cZ post A)) (by decide) rfl rfl (Nat.le_of_ble_eq_true rfl) ?_
  intro p e s m args below meth c A ls E0 hP hD hS hl
  obtain ⟨hx, hb, hr, hml, hown, hts, hlocks, hK, hA, n1, n2⟩ := id E0
  have hS0 := hS
  have hl : lv_has ls 11 [(0, .long a0), (2, .long a1)] := hl
  unfold w_X0_commonDivisor at hw
  obtain ⟨H, hH⟩ : ∃ H, H = s.heap := ⟨_, rfl⟩
  have hS : va_S A s.heap H [] := by rw [hH]; exact hS
  have hP : va_P (dC, dI) vwCl (wld_X0_commonDivisor cI cJ cZ) H := by rw [hH]; exact hP
  suffices hG : W p l e ({ frames := 0, cells := 0, slots := 0, locals := 0 }) s m args below meth c H [] 0 0 (MQ below (q_X0_commonDivisor dC dI cI cJ cZ post A) args s 0 0 A) (F0 m 0 ls []) by rw [hH] at hG; exact hG
  clear hH
  refine lv_lload_n hx hb dX0_commonDivisor_0 rfl (lv_at hl 0 rfl) ?_
  refine lv_lstore (lv' := [(4, .long a0), (0, .long a0), (2, .long a1)]) hx hb dX0_commonDivisor_1 hl (by decide) rfl (fun ls hl => ?_)
  refine lv_lload_n hx hb dX0_commonDivisor_3 rfl (lv_at hl 2 rfl) ?_
  refine lv_lstore (lv' := [(6, .long a1), (4, .long a0), (0, .long a0), (2, .long a1)]) hx hb dX0_commonDivisor_4 hl (by decide) rfl (fun ls hl => ?_)
  refine lv_iconst (v := 0) hx hb dX0_commonDivisor_6 (by decide) ?_
  refine lv_istore (lv' := [(8, .int (0 : Int32)), (6, .long a1), (4, .long a0), (0, .long a0), (2, .long a1)]) hx hb dX0_commonDivisor_7 hl (by decide) rfl (fun ls hl => ?_)
  obtain ⟨n7, hw⟩ := hw
  refine c_X0_commonDivisor_L9 (l := l)  E0 ?_ n7 _ _ _ hw _ _ _ hP hD hS (lv_sub hl [2, 1, 0] rfl)
  · intro v8 v9 v10 H locs ls hw hP hD hS hl
    have hP : va_P (dC, dI) vwCl (wld_X0_commonDivisor cI cJ cZ) H := hP
    have hD : va_D A (wld_X0_commonDivisor cI cJ cZ) := hD
    refine lv_lload hx hb dX0_commonDivisor_45 (lv_at hl 0 rfl) ?_
    exact x_lret (w1 := fun (u : Unit) => (wld_X0_commonDivisor cI cJ cZ)) hx hb hr hlocks () hw hP hD hS dX0_commonDivisor_47
abbrev wld_X0_combine (cI cJ cZ : ClassId) (h_p0 : Nat) (ad_p0 : Nat → Nat) (p0_rows : Int32) (p0_size : Int32) (p0_cells : Nat → Int64) : va_W := [(h_p0, .inr (0, [.ref (ad_p0 0), .ref (ad_p0 1), .ref (ad_p0 2), .int p0_rows, .int p0_size])), ((ad_p0 1), .inl (cJ, 512, .inr (.inl p0_cells)))]
abbrev q_X0_combine (dC : Nat → ClassId) (dI : Nat → Nat → Nat) (cI cJ cZ : ClassId) (h_p0 : Nat) (ad_p0 : Nat → Nat) (p0_rows : Int32) (p0_size : Int32) (p0_cells : Nat → Int64) (post : Int32 → (Nat → Int64) → Prop) (A : Nat → Prop) : Array Value → State → Outcome → State → Prop := va_Qi (fun r (u : (Nat → Int64)) => post r u) (fun (u : (Nat → Int64)) t => xPost (dC, dI) A (wld_X0_combine cI cJ cZ h_p0 ad_p0 p0_rows p0_size u) t) A
def w_X0_combine_L40b (v4 : Int32) (v5 : Int32) (v6 : Int64) (v8 : Int64) (post : Int32 → (Nat → Int64) → Prop) (K : (Int64) → (Int32) → (Nat → Int64) → Prop) (rec : (Int64) → (Int32) → (Nat → Int64) → Prop) (v10 : Int64) (v12 : Int32) (p0_cells : Nat → Int64) : Prop :=
    ((32 : Int32) ≤ v12 →
      K v10 v12 p0_cells) ∧
    (¬ (32 : Int32) ≤ v12 →
      vp_in (v4 + v12) 512 ∧
      vp_in (v5 + v12) 512 ∧
      vp_in (v4 + v12) 512 ∧
      vp_in (v4 + v12) 512 ∧
      w_X0_commonDivisor v10 (if 0 < ((vp_updL p0_cells (v4 + v12).toNatClampNeg ((v6 * (p0_cells (v4 + v12).toNatClampNeg)) - (v8 * (p0_cells (v5 + v12).toNatClampNeg)))) (v4 + v12).toNatClampNeg) then ((vp_updL p0_cells (v4 + v12).toNatClampNeg ((v6 * (p0_cells (v4 + v12).toNatClampNeg)) - (v8 * (p0_cells (v5 + v12).toNatClampNeg)))) (v4 + v12).toNatClampNeg) else -((vp_updL p0_cells (v4 + v12).toNatClampNeg ((v6 * (p0_cells (v4 + v12).toNatClampNeg)) - (v8 * (p0_cells (v5 + v12).toNatClampNeg)))) (v4 + v12).toNatClampNeg)) (fun r7 =>
      ∀ x8 : Int32, x8 = v12 + (1 : Int32) →
      rec r7 x8 (vp_updL p0_cells (v4 + v12).toNatClampNeg ((v6 * (p0_cells (v4 + v12).toNatClampNeg)) - (v8 * (p0_cells (v5 + v12).toNatClampNeg))))))
def w_X0_combine_L40 (v4 : Int32) (v5 : Int32) (v6 : Int64) (v8 : Int64) (post : Int32 → (Nat → Int64) → Prop) (K : (Int64) → (Int32) → (Nat → Int64) → Prop) : Nat → (Int64) → (Int32) → (Nat → Int64) → Prop
  | 0, _, _, _ => False
  | n + 1, v10, v12, p0_cells => w_X0_combine_L40b v4 v5 v6 v8 post K (w_X0_combine_L40 v4 v5 v6 v8 post K n) v10 v12 p0_cells
def w_X0_combine_L113b (v4 : Int32) (v10 : Int64) (post : Int32 → (Nat → Int64) → Prop) (K : (Int32) → (Nat → Int64) → Prop) (rec : (Int32) → (Nat → Int64) → Prop) (v12 : Int32) (p0_cells : Nat → Int64) : Prop :=
    ((32 : Int32) ≤ v12 →
      K v12 p0_cells) ∧
    (¬ (32 : Int32) ≤ v12 →
      ((lg_cmp v10 (1 : Int64)) ≤ 0 →
        vp_in (v4 + v12) 512 ∧
        ((lg_cmp (if 0 < (p0_cells (v4 + v12).toNatClampNeg) then (p0_cells (v4 + v12).toNatClampNeg) else -(p0_cells (v4 + v12).toNatClampNeg)) (1000000000 : Int64)) ≤ 0 →
          ∀ x19 : Int32, x19 = v12 + (1 : Int32) →
          rec x19 p0_cells) ∧
        (¬ (lg_cmp (if 0 < (p0_cells (v4 + v12).toNatClampNeg) then (p0_cells (v4 + v12).toNatClampNeg) else -(p0_cells (v4 + v12).toNatClampNeg)) (1000000000 : Int64)) ≤ 0 →
          (post (0 : Int32) p0_cells))) ∧
      (¬ (lg_cmp v10 (1 : Int64)) ≤ 0 →
        vp_in (v4 + v12) 512 ∧
        ¬ v10 = 0 ∧
        vp_in (v4 + v12) 512 ∧
        vp_in (v4 + v12) 512 ∧
        ((lg_cmp (if 0 < ((vp_updL p0_cells (v4 + v12).toNatClampNeg ((p0_cells (v4 + v12).toNatClampNeg) / v10)) (v4 + v12).toNatClampNeg) then ((vp_updL p0_cells (v4 + v12).toNatClampNeg ((p0_cells (v4 + v12).toNatClampNeg) / v10)) (v4 + v12).toNatClampNeg) else -((vp_updL p0_cells (v4 + v12).toNatClampNeg ((p0_cells (v4 + v12).toNatClampNeg) / v10)) (v4 + v12).toNatClampNeg)) (1000000000 : Int64)) ≤ 0 →
          ∀ x22 : Int32, x22 = v12 + (1 : Int32) →
          rec x22 (vp_updL p0_cells (v4 + v12).toNatClampNeg ((p0_cells (v4 + v12).toNatClampNeg) / v10))) ∧
        (¬ (lg_cmp (if 0 < ((vp_updL p0_cells (v4 + v12).toNatClampNeg ((p0_cells (v4 + v12).toNatClampNeg) / v10)) (v4 + v12).toNatClampNeg) then ((vp_updL p0_cells (v4 + v12).toNatClampNeg ((p0_cells (v4 + v12).toNatClampNeg) / v10)) (v4 + v12).toNatClampNeg) else -((vp_updL p0_cells (v4 + v12).toNatClampNeg ((p0_cells (v4 + v12).toNatClampNeg) / v10)) (v4 + v12).toNatClampNeg)) (1000000000 : Int64)) ≤ 0 →
          (post (0 : Int32) (vp_updL p0_cells (v4 + v12).toNatClampNeg ((p0_cells (v4 + v12).toNatClampNeg) / v10))))))
def w_X0_combine_L113 (v4 : Int32) (v10 : Int64) (post : Int32 → (Nat → Int64) → Prop) (K : (Int32) → (Nat → Int64) → Prop) : Nat → (Int32) → (Nat → Int64) → Prop
  | 0, _, _ => False
  | n + 1, v12, p0_cells => w_X0_combine_L113b v4 v10 post K (w_X0_combine_L113 v4 v10 post K n) v12 p0_cells
def w_X0_combine (p0_cells : Nat → Int64) (a1 : Int32) (a2 : Int32) (a3 : Int32) (post : Int32 → (Nat → Int64) → Prop) : Prop :=
  ∀ x1 : Int32, x1 = (a1 * (32 : Int32)) →
  ∀ x2 : Int32, x2 = (a2 * (32 : Int32)) →
  vp_in (x2 + a3) 512 ∧
  ∀ x3 : Int64, x3 = (p0_cells (x2 + a3).toNatClampNeg) →
  vp_in (x1 + a3) 512 ∧
  ∀ x4 : Int64, x4 = (p0_cells (x1 + a3).toNatClampNeg) →
  ∃ n : Nat, w_X0_combine_L40 x1 x2 x3 x4 post (fun v10 v11 s12 =>
      ∃ n : Nat, w_X0_combine_L113 x1 v10 post (fun v24 s25 =>
          (post (1 : Int32) s25)) n (0 : Int32) s12) n (0 : Int64) (0 : Int32) p0_cells
set_option maxHeartbeats 4000000 in
set_option maxRecDepth 100000 in
theorem c_X0_combine_L40 {p : Program} {l : Launch} {e : Env} {s : State} {m : MethodId} {args : Array Value} {below : List Frame} {meth : Method} {c : Code} {dC : Nat → ClassId} {dI : Nat → Nat → Nat} {A : Nat → Prop} {cI cJ cZ : ClassId} {h_p0 : Nat} {ad_p0 : Nat → Nat} {p0_rows : Int32} {p0_size : Int32} {v4 : Int32} {v5 : Int32} {v6 : Int64} {v8 : Int64} {z_p0_cells : Nat → Int64} {post : Int32 → (Nat → Int64) → Prop} {K : (Int64) → (Int32) → (Nat → Int64) → Prop} (E0 : xEnv p s m args meth c cX0_combine (some .boolean) 13 RX0 wsX0_combine (dC, dI) cI cJ cZ A) (hk : ∀ (v10 : Int64) (v12 : Int32) (p0_cells : Nat → Int64) (H : Heap) (locs : List Loc) (ls : Array Slot), K v10 v12 p0_cells → va_P (dC, dI) vwCl (wld_X0_combine cI cJ cZ h_p0 ad_p0 p0_rows p0_size p0_cells) H → va_D A (wld_X0_combine cI cJ cZ h_p0 ad_p0 p0_rows p0_size p0_cells) → va_S A s.heap H locs → lv_has ls 13 [(0, .ref h_p0), (4, .int v4), (10, .long v10)] → W p l e ({ frames := 1, cells := 0, slots := 0, locals := 30 }) s m args below meth c H locs 0 0 (MQ below (q_X0_combine dC dI cI cJ cZ h_p0 ad_p0 p0_rows p0_size z_p0_cells post A) args s 0 0 A) (F0 m 110 ls [])) : ∀ (n : Nat) (v10 : Int64) (v12 : Int32) (p0_cells : Nat → Int64), w_X0_combine_L40 v4 v5 v6 v8 post K n v10 v12 p0_cells → ∀ (H : Heap) (locs : List Loc) (ls : Array Slot), va_P (dC, dI) vwCl (wld_X0_combine cI cJ cZ h_p0 ad_p0 p0_rows p0_size p0_cells) H → va_D A (wld_X0_combine cI cJ cZ h_p0 ad_p0 p0_rows p0_size p0_cells) → va_S A s.heap H locs → lv_has ls 13 [(0, .ref h_p0), (4, .int v4), (5, .int v5), (6, .long v6), (8, .long v8), (10, .long v10), (12, .int v12)] → W p l e ({ frames := 1, cells := 0, slots := 0, locals := 30 }) s m args below meth c H locs 0 0 (MQ below (q_X0_combine dC dI cI cJ cZ h_p0 ad_p0 p0_rows p0_size z_p0_cells post A) args s 0 0 A) (F0 m 40 ls []) := by
  obtain ⟨hx, hb, hr, hml, hown, hts, hlocks, hK, hA, n1, n2⟩ := id E0
  have iX0 : ∀ w ∈ u_ws RX0 TX0 5, w ∈ wsX0_combine := fun w h => List.mem_cons_of_mem _ (List.mem_append_right _ h)
  intro n
  induction n with
  | zero => intro v10 v12 p0_cells hw; exact hw.elim
  | succ n ih =>
    intro v10 v12 p0_cells hw H locs ls hP hD hS hl
    have hw : w_X0_combine_L40b v4 v5 v6 v8 post K (w_X0_combine_L40 v4 v5 v6 v8 post K n) v10 v12 p0_cells := hw
    unfold w_X0_combine_L40b at hw
    refine lv_iload hx hb dX0_combine_40 (lv_at hl 6 rfl) ?_
    refine lv_bipush (v := 32) hx hb dX0_combine_42 (by decide) ?_
    refine lv_icmp_ge (tgt := 110) hx hb dX0_combine_44 (by decide) (fun c5 => ?_) (fun c6 => ?_)
    · have hw := hw.1 c5
      exact hk _ _ _ _ _ _ hw hP hD hS (lv_sub hl [0, 1, 5] rfl)
    · have hw := hw.2 c6
      refine lv_aload_n hx hb dX0_combine_47 rfl (lv_at hl 0 rfl) ?_
      refine va_get (D := (dC, dI)) (ci := 0) (v := .ref (ad_p0 1)) (C := RX0) (T := TX0) (N := 5) hx hb hts iX0 hown hK hP 0 rfl rfl 1 (by decide) (hts (.fieldLink RX0 15 "NetHouse$Balance" "cells" "[J") (by decide +kernel)) (fun _ h9 => h9) rfl dX0_combine_48 ?_
      refine lv_iload hx hb dX0_combine_51 (lv_at hl 1 rfl) ?_
      refine lv_iload hx hb dX0_combine_53 (lv_at hl 6 rfl) ?_
      refine lv_iadd hx hb dX0_combine_55 ?_
      refine lv_lload hx hb dX0_combine_56 (lv_at hl 3 rfl) ?_
      refine lv_aload_n hx hb dX0_combine_58 rfl (lv_at hl 0 rfl) ?_
      refine va_get (D := (dC, dI)) (ci := 0) (v := .ref (ad_p0 1)) (C := RX0) (T := TX0) (N := 5) hx hb hts iX0 hown hK hP 0 rfl rfl 1 (by decide) (hts (.fieldLink RX0 15 "NetHouse$Balance" "cells" "[J") (by decide +kernel)) (fun _ h9 => h9) rfl dX0_combine_59 ?_
      refine lv_iload hx hb dX0_combine_62 (lv_at hl 1 rfl) ?_
      refine lv_iload hx hb dX0_combine_64 (lv_at hl 6 rfl) ?_
      refine lv_iadd hx hb dX0_combine_66 ?_
      refine va_lald hx hb hK hP 1 1 rfl rfl hw.1 dX0_combine_67 ?_
      have hw := hw.2
      refine lv_lmul hx hb dX0_combine_68 ?_
      refine lv_lload hx hb dX0_combine_69 (lv_at hl 4 rfl) ?_
      refine lv_aload_n hx hb dX0_combine_71 rfl (lv_at hl 0 rfl) ?_
      refine va_get (D := (dC, dI)) (ci := 0) (v := .ref (ad_p0 1)) (C := RX0) (T := TX0) (N := 5) hx hb hts iX0 hown hK hP 0 rfl rfl 1 (by decide) (hts (.fieldLink RX0 15 "NetHouse$Balance" "cells" "[J") (by decide +kernel)) (fun _ h9 => h9) rfl dX0_combine_72 ?_
      refine lv_iload hx hb dX0_combine_75 (lv_at hl 2 rfl) ?_
      refine lv_iload hx hb dX0_combine_77 (lv_at hl 6 rfl) ?_
      refine lv_iadd hx hb dX0_combine_79 ?_
      refine va_lald hx hb hK hP 1 1 rfl rfl hw.1 dX0_combine_80 ?_
      have hw := hw.2
      refine lv_lmul hx hb dX0_combine_81 ?_
      refine lv_lsub hx hb dX0_combine_82 ?_
      refine va_last hx hb hK hP hD hS 1 1 rfl rfl hw.1 dX0_combine_83 (fun H locs hP hD hS => ?_)
      have hw := hw.2
      have hP : va_P (dC, dI) vwCl (wld_X0_combine cI cJ cZ h_p0 ad_p0 p0_rows p0_size (vp_updL p0_cells (v4 + v12).toNatClampNeg ((v6 * (p0_cells (v4 + v12).toNatClampNeg)) - (v8 * (p0_cells (v5 + v12).toNatClampNeg))))) H := hP
      have hD : va_D A (wld_X0_combine cI cJ cZ h_p0 ad_p0 p0_rows p0_size (vp_updL p0_cells (v4 + v12).toNatClampNeg ((v6 * (p0_cells (v4 + v12).toNatClampNeg)) - (v8 * (p0_cells (v5 + v12).toNatClampNeg))))) := hD
      refine lv_lload hx hb dX0_combine_84 (lv_at hl 5 rfl) ?_
      refine lv_aload_n hx hb dX0_combine_86 rfl (lv_at hl 0 rfl) ?_
      refine va_get (D := (dC, dI)) (ci := 0) (v := .ref (ad_p0 1)) (C := RX0) (T := TX0) (N := 5) hx hb hts iX0 hown hK hP 0 rfl rfl 1 (by decide) (hts (.fieldLink RX0 15 "NetHouse$Balance" "cells" "[J") (by decide +kernel)) (fun _ h9 => h9) rfl dX0_combine_87 ?_
      refine lv_iload hx hb dX0_combine_90 (lv_at hl 1 rfl) ?_
      refine lv_iload hx hb dX0_combine_92 (lv_at hl 6 rfl) ?_
      refine lv_iadd hx hb dX0_combine_94 ?_
      refine va_lald hx hb hK hP 1 1 rfl rfl hw.1 dX0_combine_95 ?_
      have hw := hw.2
      refine va_mabs_long hx hb (by rw [hml]; exact hl.1.symm) hown (hts (.methodLink RX0 65 Lib.MathLoose.abs_long.x) (by decide +kernel)) (hts (.static Lib.MathLoose.abs_long.x) (by decide +kernel)) (hts (.initialized "java/lang/Math") (by decide +kernel)) (hts (.code Lib.MathLoose.abs_long.x Lib.MathLoose.abs_long.code 2 (some .long)) (by decide +kernel)) (Nat.le_of_ble_eq_true rfl) (Nat.le_of_ble_eq_true rfl) (Nat.zero_le _) (Nat.zero_le _) dX0_combine_96 ?_
      obtain ⟨hPc, hDc⟩ := x_sub (wc := (wld_X0_commonDivisor cI cJ cZ )) hP hD [] (n := 2) rfl rfl (by decide +kernel)
      refine x_calll (ws' := fun (u : Unit) => (wld_X0_combine cI cJ cZ h_p0 ad_p0 p0_rows p0_size (vp_updL p0_cells (v4 + v12).toNatClampNeg ((v6 * (p0_cells (v4 + v12).toNatClampNeg)) - (v8 * (p0_cells (v5 + v12).toNatClampNeg)))))) hP hD hS hA [] [0, 1] [0, 1] (n := 2) (k := 0) rfl (fun _ => rfl) rfl (by decide +kernel) (fun _ => rfl) (va_runS (As := [.long v10, .long (if 0 < ((vp_updL p0_cells (v4 + v12).toNatClampNeg ((v6 * (p0_cells (v4 + v12).toNatClampNeg)) - (v8 * (p0_cells (v5 + v12).toNatClampNeg)))) (v4 + v12).toNatClampNeg) then ((vp_updL p0_cells (v4 + v12).toNatClampNeg ((v6 * (p0_cells (v4 + v12).toNatClampNeg)) - (v8 * (p0_cells (v5 + v12).toNatClampNeg)))) (v4 + v12).toNatClampNeg) else -((vp_updL p0_cells (v4 + v12).toNatClampNeg ((v6 * (p0_cells (v4 + v12).toNatClampNeg)) - (v8 * (p0_cells (v5 + v12).toNatClampNeg)))) (v4 + v12).toNatClampNeg))]) (rest := []) ⟨hx, hb, hml, hown, hts⟩ (c_X0_commonDivisor (l := l) (dC := dC) (dI := dI) (cI := cI) (cJ := cJ) (cZ := cZ) (sz := H.size) hw) (va_cwS 2 hts gX0_combine_X0_commonDivisor rfl rfl rfl (by decide +kernel) ⟨Nat.le_of_ble_eq_true rfl, Nat.le_of_ble_eq_true rfl⟩) ⟨xPre_blind, xPre_at hK hPc hDc n1 n2⟩ rfl rfl hl.1 rfl (lv_room (Nat.le_of_ble_eq_true rfl)) dX0_combine_99 ⟨Nat.zero_le _, Nat.zero_le _⟩) (fun r7 u H locs hw hP hD hS => ?_)
      try dsimp only at hw
      have hP : va_P (dC, dI) vwCl (wld_X0_combine cI cJ cZ h_p0 ad_p0 p0_rows p0_size (vp_updL p0_cells (v4 + v12).toNatClampNeg ((v6 * (p0_cells (v4 + v12).toNatClampNeg)) - (v8 * (p0_cells (v5 + v12).toNatClampNeg))))) H := hP
      have hD : va_D A (wld_X0_combine cI cJ cZ h_p0 ad_p0 p0_rows p0_size (vp_updL p0_cells (v4 + v12).toNatClampNeg ((v6 * (p0_cells (v4 + v12).toNatClampNeg)) - (v8 * (p0_cells (v5 + v12).toNatClampNeg))))) := hD
      refine lv_lstore (lv' := [(10, .long r7), (0, .ref h_p0), (4, .int v4), (5, .int v5), (6, .long v6), (8, .long v8), (12, .int v12)]) hx hb dX0_combine_102 hl (by decide) rfl (fun ls hl => ?_)
      obtain ⟨x8, ex8⟩ : ∃ y : Int32, y = v12 + (1 : Int32) := ⟨_, rfl⟩
      have hw := hw x8 ex8
      refine lv_iinc (v := x8) (lv' := [(12, .int x8), (10, .long r7), (0, .ref h_p0), (4, .int v4), (5, .int v5), (6, .long v6), (8, .long v8)]) hx hb dX0_combine_104 hl (k := 6) rfl (by rw [ex8]; rfl) (by decide) rfl (fun ls hl => ?_)
      refine lv_goto (tgt := 40) hx hb dX0_combine_107 (by decide) ?_
      exact ih _ _ _ hw _ _ _ hP hD hS (lv_sub hl [2, 3, 4, 5, 6, 1, 0] rfl)
set_option maxHeartbeats 4000000 in
set_option maxRecDepth 100000 in
theorem c_X0_combine_L113 {p : Program} {l : Launch} {e : Env} {s : State} {m : MethodId} {args : Array Value} {below : List Frame} {meth : Method} {c : Code} {dC : Nat → ClassId} {dI : Nat → Nat → Nat} {A : Nat → Prop} {cI cJ cZ : ClassId} {h_p0 : Nat} {ad_p0 : Nat → Nat} {p0_rows : Int32} {p0_size : Int32} {v4 : Int32} {v10 : Int64} {z_p0_cells : Nat → Int64} {post : Int32 → (Nat → Int64) → Prop} {K : (Int32) → (Nat → Int64) → Prop} (E0 : xEnv p s m args meth c cX0_combine (some .boolean) 13 RX0 wsX0_combine (dC, dI) cI cJ cZ A) (hk : ∀ (v12 : Int32) (p0_cells : Nat → Int64) (H : Heap) (locs : List Loc) (ls : Array Slot), K v12 p0_cells → va_P (dC, dI) vwCl (wld_X0_combine cI cJ cZ h_p0 ad_p0 p0_rows p0_size p0_cells) H → va_D A (wld_X0_combine cI cJ cZ h_p0 ad_p0 p0_rows p0_size p0_cells) → va_S A s.heap H locs → lv_has ls 13 [] → W p l e ({ frames := 1, cells := 0, slots := 0, locals := 30 }) s m args below meth c H locs 0 0 (MQ below (q_X0_combine dC dI cI cJ cZ h_p0 ad_p0 p0_rows p0_size z_p0_cells post A) args s 0 0 A) (F0 m 170 ls [])) : ∀ (n : Nat) (v12 : Int32) (p0_cells : Nat → Int64), w_X0_combine_L113 v4 v10 post K n v12 p0_cells → ∀ (H : Heap) (locs : List Loc) (ls : Array Slot), va_P (dC, dI) vwCl (wld_X0_combine cI cJ cZ h_p0 ad_p0 p0_rows p0_size p0_cells) H → va_D A (wld_X0_combine cI cJ cZ h_p0 ad_p0 p0_rows p0_size p0_cells) → va_S A s.heap H locs → lv_has ls 13 [(0, .ref h_p0), (4, .int v4), (10, .long v10), (12, .int v12)] → W p l e ({ frames := 1, cells := 0, slots := 0, locals := 30 }) s m args below meth c H locs 0 0 (MQ below (q_X0_combine dC dI cI cJ cZ h_p0 ad_p0 p0_rows p0_size z_p0_cells post A) args s 0 0 A) (F0 m 113 ls []) := by
  obtain ⟨hx, hb, hr, hml, hown, hts, hlocks, hK, hA, n1, n2⟩ := id E0
  have iX0 : ∀ w ∈ u_ws RX0 TX0 5, w ∈ wsX0_combine := fun w h => List.mem_cons_of_mem _ (List.mem_append_right _ h)
  intro n
  induction n with
  | zero => intro v12 p0_cells hw; exact hw.elim
  | succ n ih =>
    intro v12 p0_cells hw H locs ls hP hD hS hl
    have hw : w_X0_combine_L113b v4 v10 post K (w_X0_combine_L113 v4 v10 post K n) v12 p0_cells := hw
    unfold w_X0_combine_L113b at hw
    refine lv_iload hx hb dX0_combine_113 (lv_at hl 3 rfl) ?_
    refine lv_bipush (v := 32) hx hb dX0_combine_115 (by decide) ?_
    refine lv_icmp_ge (tgt := 170) hx hb dX0_combine_117 (by decide) (fun c13 => ?_) (fun c14 => ?_)
    · have hw := hw.1 c13
      exact hk _ _ _ _ _ hw hP hD hS (lv_sub hl [] rfl)
    · have hw := hw.2 c14
      refine lv_lload hx hb dX0_combine_120 (lv_at hl 2 rfl) ?_
      refine lv_lconst (v := 1) hx hb dX0_combine_122 (by decide) ?_
      refine W.lcmp hx hb dX0_combine_123 ?_
      refine lv_if_le (tgt := 142) hx hb dX0_combine_124 (by decide) (fun c15 => ?_) (fun c16 => ?_)
      · have hw := hw.1 c15
        refine lv_aload_n hx hb dX0_combine_142 rfl (lv_at hl 0 rfl) ?_
        refine va_get (D := (dC, dI)) (ci := 0) (v := .ref (ad_p0 1)) (C := RX0) (T := TX0) (N := 5) hx hb hts iX0 hown hK hP 0 rfl rfl 1 (by decide) (hts (.fieldLink RX0 15 "NetHouse$Balance" "cells" "[J") (by decide +kernel)) (fun _ h9 => h9) rfl dX0_combine_143 ?_
        refine lv_iload hx hb dX0_combine_146 (lv_at hl 1 rfl) ?_
        refine lv_iload hx hb dX0_combine_148 (lv_at hl 3 rfl) ?_
        refine lv_iadd hx hb dX0_combine_150 ?_
        refine va_lald hx hb hK hP 1 1 rfl rfl hw.1 dX0_combine_151 ?_
        have hw := hw.2
        refine va_mabs_long hx hb (by rw [hml]; exact hl.1.symm) hown (hts (.methodLink RX0 65 Lib.MathLoose.abs_long.x) (by decide +kernel)) (hts (.static Lib.MathLoose.abs_long.x) (by decide +kernel)) (hts (.initialized "java/lang/Math") (by decide +kernel)) (hts (.code Lib.MathLoose.abs_long.x Lib.MathLoose.abs_long.code 2 (some .long)) (by decide +kernel)) (Nat.le_of_ble_eq_true rfl) (Nat.le_of_ble_eq_true rfl) (Nat.zero_le _) (Nat.zero_le _) dX0_combine_152 ?_
        refine lv_ldc2 (v := 1000000000) hx hb hown (hts (.constantLong RX0 75 (1000000000)) (by decide +kernel)) dX0_combine_155 ?_
        refine W.lcmp hx hb dX0_combine_158 ?_
        refine lv_if_le (tgt := 164) hx hb dX0_combine_159 (by decide) (fun c17 => ?_) (fun c18 => ?_)
        · have hw := hw.1 c17
          obtain ⟨x19, ex19⟩ : ∃ y : Int32, y = v12 + (1 : Int32) := ⟨_, rfl⟩
          have hw := hw x19 ex19
          refine lv_iinc (v := x19) (lv' := [(12, .int x19), (0, .ref h_p0), (4, .int v4), (10, .long v10)]) hx hb dX0_combine_164 hl (k := 3) rfl (by rw [ex19]; rfl) (by decide) rfl (fun ls hl => ?_)
          refine lv_goto (tgt := 113) hx hb dX0_combine_167 (by decide) ?_
          exact ih _ _ hw _ _ _ hP hD hS (lv_sub hl [1, 2, 3, 0] rfl)
        · have hw := hw.2 c18
          refine lv_iconst (v := 0) hx hb dX0_combine_162 (by decide) ?_
          exact x_zret (w1 := fun (u : (Nat → Int64)) => (wld_X0_combine cI cJ cZ h_p0 ad_p0 p0_rows p0_size u)) hx hb hr hlocks (by decide) (p0_cells) hw hP hD hS dX0_combine_163
      · have hw := hw.2 c16
        refine lv_aload_n hx hb dX0_combine_127 rfl (lv_at hl 0 rfl) ?_
        refine va_get (D := (dC, dI)) (ci := 0) (v := .ref (ad_p0 1)) (C := RX0) (T := TX0) (N := 5) hx hb hts iX0 hown hK hP 0 rfl rfl 1 (by decide) (hts (.fieldLink RX0 15 "NetHouse$Balance" "cells" "[J") (by decide +kernel)) (fun _ h9 => h9) rfl dX0_combine_128 ?_
        refine lv_iload hx hb dX0_combine_131 (lv_at hl 1 rfl) ?_
        refine lv_iload hx hb dX0_combine_133 (lv_at hl 3 rfl) ?_
        refine lv_iadd hx hb dX0_combine_135 ?_
        refine lv_dup2_11 hx hb dX0_combine_136 rfl rfl ?_
        refine va_lald hx hb hK hP 1 1 rfl rfl hw.1 dX0_combine_137 ?_
        have hw := hw.2
        refine lv_lload hx hb dX0_combine_138 (lv_at hl 2 rfl) ?_
        refine lv_ldiv hx hb dX0_combine_140 hw.1 ?_
        have hw := hw.2
        refine va_last hx hb hK hP hD hS 1 1 rfl rfl hw.1 dX0_combine_141 (fun H locs hP hD hS => ?_)
        have hw := hw.2
        have hP : va_P (dC, dI) vwCl (wld_X0_combine cI cJ cZ h_p0 ad_p0 p0_rows p0_size (vp_updL p0_cells (v4 + v12).toNatClampNeg ((p0_cells (v4 + v12).toNatClampNeg) / v10))) H := hP
        have hD : va_D A (wld_X0_combine cI cJ cZ h_p0 ad_p0 p0_rows p0_size (vp_updL p0_cells (v4 + v12).toNatClampNeg ((p0_cells (v4 + v12).toNatClampNeg) / v10))) := hD
        refine lv_aload_n hx hb dX0_combine_142 rfl (lv_at hl 0 rfl) ?_
        refine va_get (D := (dC, dI)) (ci := 0) (v := .ref (ad_p0 1)) (C := RX0) (T := TX0) (N := 5) hx hb hts iX0 hown hK hP 0 rfl rfl 1 (by decide) (hts (.fieldLink RX0 15 "NetHouse$Balance" "cells" "[J") (by decide +kernel)) (fun _ h9 => h9) rfl dX0_combine_143 ?_
        refine lv_iload hx hb dX0_combine_146 (lv_at hl 1 rfl) ?_
        refine lv_iload hx hb dX0_combine_148 (lv_at hl 3 rfl) ?_
        refine lv_iadd hx hb dX0_combine_150 ?_
        refine va_lald hx hb hK hP 1 1 rfl rfl hw.1 dX0_combine_151 ?_
        have hw := hw.2
        refine va_mabs_long hx hb (by rw [hml]; exact hl.1.symm) hown (hts (.methodLink RX0 65 Lib.MathLoose.abs_long.x) (by decide +kernel)) (hts (.static Lib.MathLoose.abs_long.x) (by decide +kernel)) (hts (.initialized "java/lang/Math") (by decide +kernel)) (hts (.code Lib.MathLoose.abs_long.x Lib.MathLoose.abs_long.code 2 (some .long)) (by decide +kernel)) (Nat.le_of_ble_eq_true rfl) (Nat.le_of_ble_eq_true rfl) (Nat.zero_le _) (Nat.zero_le _) dX0_combine_152 ?_
        refine lv_ldc2 (v := 1000000000) hx hb hown (hts (.constantLong RX0 75 (1000000000)) (by decide +kernel)) dX0_combine_155 ?_
        refine W.lcmp hx hb dX0_combine_158 ?_
        refine lv_if_le (tgt := 164) hx hb dX0_combine_159 (by decide) (fun c20 => ?_) (fun c21 => ?_)
        · have hw := hw.1 c20
          obtain ⟨x22, ex22⟩ : ∃ y : Int32, y = v12 + (1 : Int32) := ⟨_, rfl⟩
          have hw := hw x22 ex22
          refine lv_iinc (v := x22) (lv' := [(12, .int x22), (0, .ref h_p0), (4, .int v4), (10, .long v10)]) hx hb dX0_combine_164 hl (k := 3) rfl (by rw [ex22]; rfl) (by decide) rfl (fun ls hl => ?_)
          refine lv_goto (tgt := 113) hx hb dX0_combine_167 (by decide) ?_
          exact ih _ _ hw _ _ _ hP hD hS (lv_sub hl [1, 2, 3, 0] rfl)
        · have hw := hw.2 c21
          refine lv_iconst (v := 0) hx hb dX0_combine_162 (by decide) ?_
          exact x_zret (w1 := fun (u : (Nat → Int64)) => (wld_X0_combine cI cJ cZ h_p0 ad_p0 p0_rows p0_size u)) hx hb hr hlocks (by decide) ((vp_updL p0_cells (v4 + v12).toNatClampNeg ((p0_cells (v4 + v12).toNatClampNeg) / v10))) hw hP hD hS dX0_combine_163
set_option maxHeartbeats 4000000 in
set_option maxRecDepth 100000 in
theorem c_X0_combine {l : Launch} {dC : Nat → ClassId} {dI : Nat → Nat → Nat} {sz : Nat} {cI cJ cZ : ClassId} {h_p0 : Nat} {ad_p0 : Nat → Nat} {p0_rows : Int32} {p0_size : Int32} {p0_cells : Nat → Int64} {a1 : Int32} {a2 : Int32} {a3 : Int32} {post : Int32 → (Nat → Int64) → Prop} (hw : w_X0_combine p0_cells a1 a2 a3 post) : Met l yX0_combine wsX0_combine ({ frames := 1, cells := 0, slots := 0, locals := 30 }) (va_Pc [.ref h_p0, .int a1, .int a2, .int a3] (xPre (dC, dI) cI cJ cZ (wld_X0_combine cI cJ cZ h_p0 ad_p0 p0_rows p0_size p0_cells) sz)) (q_X0_combine dC dI cI cJ cZ h_p0 ad_p0 p0_rows p0_size p0_cells post (va_A (wld_X0_combine cI cJ cZ h_p0 ad_p0 p0_rows p0_size p0_cells) sz)) 0 0 (va_A (wld_X0_combine cI cJ cZ h_p0 ad_p0 p0_rows p0_size p0_cells) sz) := by
  refine x_met (cc := cX0_combine) (maxL := 13) (ret := (some .boolean)) (own := RX0) (Qc := fun A => (q_X0_combine dC dI cI cJ cZ h_p0 ad_p0 p0_rows p0_size p0_cells post A)) (by decide) rfl rfl (Nat.le_of_ble_eq_true rfl) ?_
  intro p e s m args below meth c A ls E0 hP hD hS hl
  obtain ⟨hx, hb, hr, hml, hown, hts, hlocks, hK, hA, n1, n2⟩ := id E0
  have iX0 : ∀ w ∈ u_ws RX0 TX0 5, w ∈ wsX0_combine := fun w h => List.mem_cons_of_mem _ (List.mem_append_right _ h)
  have hS0 := hS
  have hl : lv_has ls 13 [(0, .ref h_p0), (1, .int a1), (2, .int a2), (3, .int a3)] := hl
  unfold w_X0_combine at hw
  obtain ⟨H, hH⟩ : ∃ H, H = s.heap := ⟨_, rfl⟩
  have hS : va_S A s.heap H [] := by rw [hH]; exact hS
  have hP : va_P (dC, dI) vwCl (wld_X0_combine cI cJ cZ h_p0 ad_p0 p0_rows p0_size p0_cells) H := by rw [hH]; exact hP
  suffices hG : W p l e ({ frames := 1, cells := 0, slots := 0, locals := 30 }) s m args below meth c H [] 0 0 (MQ below (q_X0_combine dC dI cI cJ cZ h_p0 ad_p0 p0_rows p0_size p0_cells post A) args s 0 0 A) (F0 m 0 ls []) by rw [hH] at hG; exact hG
  clear hH
  refine lv_iload_n hx hb dX0_combine_0 rfl (lv_at hl 1 rfl) ?_
  refine lv_bipush (v := 32) hx hb dX0_combine_1 (by decide) ?_
  refine lv_imul hx hb dX0_combine_3 ?_
  refine lv_topi (fun x1 ex1 => ?_)
  have hw := hw x1 ex1
  refine lv_istore (lv' := [(4, .int x1), (0, .ref h_p0), (1, .int a1), (2, .int a2), (3, .int a3)]) hx hb dX0_combine_4 hl (by decide) rfl (fun ls hl => ?_)
  refine lv_iload_n hx hb dX0_combine_6 rfl (lv_at hl 3 rfl) ?_
  refine lv_bipush (v := 32) hx hb dX0_combine_7 (by decide) ?_
  refine lv_imul hx hb dX0_combine_9 ?_
  refine lv_topi (fun x2 ex2 => ?_)
  have hw := hw x2 ex2
  refine lv_istore (lv' := [(5, .int x2), (4, .int x1), (0, .ref h_p0), (1, .int a1), (2, .int a2), (3, .int a3)]) hx hb dX0_combine_10 hl (by decide) rfl (fun ls hl => ?_)
  refine lv_aload_n hx hb dX0_combine_12 rfl (lv_at hl 2 rfl) ?_
  refine va_get (D := (dC, dI)) (ci := 0) (v := .ref (ad_p0 1)) (C := RX0) (T := TX0) (N := 5) hx hb hts iX0 hown hK hP 0 rfl rfl 1 (by decide) (hts (.fieldLink RX0 15 "NetHouse$Balance" "cells" "[J") (by decide +kernel)) (fun _ h9 => h9) rfl dX0_combine_13 ?_
  refine lv_iload hx hb dX0_combine_16 (lv_at hl 0 rfl) ?_
  refine lv_iload_n hx hb dX0_combine_18 rfl (lv_at hl 5 rfl) ?_
  refine lv_iadd hx hb dX0_combine_19 ?_
  refine va_lald hx hb hK hP 1 1 rfl rfl hw.1 dX0_combine_20 ?_
  have hw := hw.2
  refine lv_topl (fun x3 ex3 => ?_)
  have hw := hw x3 ex3
  refine lv_lstore (lv' := [(6, .long x3), (5, .int x2), (4, .int x1), (0, .ref h_p0), (1, .int a1), (2, .int a2), (3, .int a3)]) hx hb dX0_combine_21 hl (by decide) rfl (fun ls hl => ?_)
  refine lv_aload_n hx hb dX0_combine_23 rfl (lv_at hl 3 rfl) ?_
  refine va_get (D := (dC, dI)) (ci := 0) (v := .ref (ad_p0 1)) (C := RX0) (T := TX0) (N := 5) hx hb hts iX0 hown hK hP 0 rfl rfl 1 (by decide) (hts (.fieldLink RX0 15 "NetHouse$Balance" "cells" "[J") (by decide +kernel)) (fun _ h9 => h9) rfl dX0_combine_24 ?_
  refine lv_iload hx hb dX0_combine_27 (lv_at hl 2 rfl) ?_
  refine lv_iload_n hx hb dX0_combine_29 rfl (lv_at hl 6 rfl) ?_
  refine lv_iadd hx hb dX0_combine_30 ?_
  refine va_lald hx hb hK hP 1 1 rfl rfl hw.1 dX0_combine_31 ?_
  have hw := hw.2
  refine lv_topl (fun x4 ex4 => ?_)
  have hw := hw x4 ex4
  refine lv_lstore (lv' := [(8, .long x4), (6, .long x3), (5, .int x2), (4, .int x1), (0, .ref h_p0), (1, .int a1), (2, .int a2), (3, .int a3)]) hx hb dX0_combine_32 hl (by decide) rfl (fun ls hl => ?_)
  refine lv_lconst (v := 0) hx hb dX0_combine_34 (by decide) ?_
  refine lv_lstore (lv' := [(10, .long (0 : Int64)), (8, .long x4), (6, .long x3), (5, .int x2), (4, .int x1), (0, .ref h_p0), (1, .int a1), (2, .int a2), (3, .int a3)]) hx hb dX0_combine_35 hl (by decide) rfl (fun ls hl => ?_)
  refine lv_iconst (v := 0) hx hb dX0_combine_37 (by decide) ?_
  refine lv_istore (lv' := [(12, .int (0 : Int32)), (10, .long (0 : Int64)), (8, .long x4), (6, .long x3), (5, .int x2), (4, .int x1), (0, .ref h_p0), (1, .int a1), (2, .int a2), (3, .int a3)]) hx hb dX0_combine_38 hl (by decide) rfl (fun ls hl => ?_)
  obtain ⟨n9, hw⟩ := hw
  refine c_X0_combine_L40 (l := l) (z_p0_cells := p0_cells) E0 ?_ n9 _ _ _ hw _ _ _ hP hD hS (lv_sub hl [6, 5, 4, 3, 2, 1, 0] rfl)
  · intro v10 v11 s12 H locs ls hw hP hD hS hl
    have hP : va_P (dC, dI) vwCl (wld_X0_combine cI cJ cZ h_p0 ad_p0 p0_rows p0_size s12) H := hP
    have hD : va_D A (wld_X0_combine cI cJ cZ h_p0 ad_p0 p0_rows p0_size s12) := hD
    refine lv_iconst (v := 0) hx hb dX0_combine_110 (by decide) ?_
    refine lv_istore (lv' := [(12, .int (0 : Int32)), (0, .ref h_p0), (4, .int x1), (10, .long v10)]) hx hb dX0_combine_111 hl (by decide) rfl (fun ls hl => ?_)
    obtain ⟨n23, hw⟩ := hw
    refine c_X0_combine_L113 (l := l) (z_p0_cells := s12) E0 ?_ n23 _ _ hw _ _ _ hP hD hS (lv_sub hl [1, 2, 3, 0] rfl)
    · intro v24 s25 H locs ls hw hP hD hS hl
      have hP : va_P (dC, dI) vwCl (wld_X0_combine cI cJ cZ h_p0 ad_p0 p0_rows p0_size s25) H := hP
      have hD : va_D A (wld_X0_combine cI cJ cZ h_p0 ad_p0 p0_rows p0_size s25) := hD
      refine lv_iconst (v := 1) hx hb dX0_combine_170 (by decide) ?_
      exact x_zret (w1 := fun (u : (Nat → Int64)) => (wld_X0_combine cI cJ cZ h_p0 ad_p0 p0_rows p0_size u)) hx hb hr hlocks (by decide) (s25) hw hP hD hS dX0_combine_171
abbrev wld_X0_firstWith (cI cJ cZ : ClassId) (h_p0 : Nat) (ad_p0 : Nat → Nat) (p0_rows : Int32) (p0_size : Int32) (p0_cells : Nat → Int64) (p0_out : Nat → Int32) : va_W := [(h_p0, .inr (0, [.ref (ad_p0 0), .ref (ad_p0 1), .ref (ad_p0 2), .int p0_rows, .int p0_size])), ((ad_p0 1), .inl (cJ, 512, .inr (.inl p0_cells))), ((ad_p0 0), .inl (cI, 16, .inl p0_out))]
abbrev q_X0_firstWith (dC : Nat → ClassId) (dI : Nat → Nat → Nat) (cI cJ cZ : ClassId) (h_p0 : Nat) (ad_p0 : Nat → Nat) (p0_rows : Int32) (p0_size : Int32) (p0_cells : Nat → Int64) (p0_out : Nat → Int32) (post : Int32 → Prop) (A : Nat → Prop) : Array Value → State → Outcome → State → Prop := va_Qi (fun r (u : Unit) => post r ) (fun (u : Unit) t => xPost (dC, dI) A (wld_X0_firstWith cI cJ cZ h_p0 ad_p0 p0_rows p0_size p0_cells p0_out) t) A
def w_X0_firstWith_L2b (v1 : Int32) (p0_rows : Int32) (p0_cells : Nat → Int64) (p0_out : Nat → Int32) (post : Int32 → Prop) (K : (Int32) → Prop) (rec : (Int32) → Prop) (v2 : Int32) : Prop :=
    (p0_rows ≤ v2 →
      K v2) ∧
    (¬ p0_rows ≤ v2 →
      vp_in v2 16 ∧
      (¬ (p0_out v2.toNatClampNeg) = 0 →
        ∀ x5 : Int32, x5 = v2 + (1 : Int32) →
        rec x5) ∧
      ((p0_out v2.toNatClampNeg) = 0 →
        vp_in ((v2 * (32 : Int32)) + v1) 512 ∧
        ((lg_cmp (p0_cells ((v2 * (32 : Int32)) + v1).toNatClampNeg) (0 : Int64)) = 0 →
          ∀ x8 : Int32, x8 = v2 + (1 : Int32) →
          rec x8) ∧
        (¬ (lg_cmp (p0_cells ((v2 * (32 : Int32)) + v1).toNatClampNeg) (0 : Int64)) = 0 →
          (post v2))))
def w_X0_firstWith_L2 (v1 : Int32) (p0_rows : Int32) (p0_cells : Nat → Int64) (p0_out : Nat → Int32) (post : Int32 → Prop) (K : (Int32) → Prop) : Nat → (Int32) → Prop
  | 0, _ => False
  | n + 1, v2 => w_X0_firstWith_L2b v1 p0_rows p0_cells p0_out post K (w_X0_firstWith_L2 v1 p0_rows p0_cells p0_out post K n) v2
def w_X0_firstWith (p0_rows : Int32) (p0_cells : Nat → Int64) (p0_out : Nat → Int32) (a1 : Int32) (post : Int32 → Prop) : Prop :=
  ∃ n : Nat, w_X0_firstWith_L2 a1 p0_rows p0_cells p0_out post (fun v10 =>
      (post (-1 : Int32))) n (0 : Int32)
set_option maxHeartbeats 4000000 in
set_option maxRecDepth 100000 in
theorem c_X0_firstWith_L2 {p : Program} {l : Launch} {e : Env} {s : State} {m : MethodId} {args : Array Value} {below : List Frame} {meth : Method} {c : Code} {dC : Nat → ClassId} {dI : Nat → Nat → Nat} {A : Nat → Prop} {cI cJ cZ : ClassId} {h_p0 : Nat} {ad_p0 : Nat → Nat} {p0_rows : Int32} {p0_size : Int32} {p0_cells : Nat → Int64} {p0_out : Nat → Int32} {v1 : Int32}  {post : Int32 → Prop} {K : (Int32) → Prop} (E0 : xEnv p s m args meth c cX0_firstWith (some .int) 3 RX0 wsX0_firstWith (dC, dI) cI cJ cZ A) (hk : ∀ (v2 : Int32) (H : Heap) (locs : List Loc) (ls : Array Slot), K v2 → va_P (dC, dI) vwCl (wld_X0_firstWith cI cJ cZ h_p0 ad_p0 p0_rows p0_size p0_cells p0_out) H → va_D A (wld_X0_firstWith cI cJ cZ h_p0 ad_p0 p0_rows p0_size p0_cells p0_out) → va_S A s.heap H locs → lv_has ls 3 [] → W p l e ({ frames := 0, cells := 0, slots := 0, locals := 0 }) s m args below meth c H locs 0 0 (MQ below (q_X0_firstWith dC dI cI cJ cZ h_p0 ad_p0 p0_rows p0_size p0_cells p0_out post A) args s 0 0 A) (F0 m 43 ls [])) : ∀ (n : Nat) (v2 : Int32), w_X0_firstWith_L2 v1 p0_rows p0_cells p0_out post K n v2 → ∀ (H : Heap) (locs : List Loc) (ls : Array Slot), va_P (dC, dI) vwCl (wld_X0_firstWith cI cJ cZ h_p0 ad_p0 p0_rows p0_size p0_cells p0_out) H → va_D A (wld_X0_firstWith cI cJ cZ h_p0 ad_p0 p0_rows p0_size p0_cells p0_out) → va_S A s.heap H locs → lv_has ls 3 [(0, .ref h_p0), (1, .int v1), (2, .int v2)] → W p l e ({ frames := 0, cells := 0, slots := 0, locals := 0 }) s m args below meth c H locs 0 0 (MQ below (q_X0_firstWith dC dI cI cJ cZ h_p0 ad_p0 p0_rows p0_size p0_cells p0_out post A) args s 0 0 A) (F0 m 2 ls []) := by
  obtain ⟨hx, hb, hr, hml, hown, hts, hlocks, hK, hA, n1, n2⟩ := id E0
  have iX0 : ∀ w ∈ u_ws RX0 TX0 5, w ∈ wsX0_firstWith := fun w h => List.mem_cons_of_mem _ (List.mem_append_right _ h)
  intro n
  induction n with
  | zero => intro v2 hw; exact hw.elim
  | succ n ih =>
    intro v2 hw H locs ls hP hD hS hl
    have hw : w_X0_firstWith_L2b v1 p0_rows p0_cells p0_out post K (w_X0_firstWith_L2 v1 p0_rows p0_cells p0_out post K n) v2 := hw
    unfold w_X0_firstWith_L2b at hw
    refine lv_iload_n hx hb dX0_firstWith_2 rfl (lv_at hl 2 rfl) ?_
    refine lv_aload_n hx hb dX0_firstWith_3 rfl (lv_at hl 0 rfl) ?_
    refine va_get (D := (dC, dI)) (ci := 0) (v := .int p0_rows) (C := RX0) (T := TX0) (N := 5) hx hb hts iX0 hown hK hP 0 rfl rfl 3 (by decide) (hts (.fieldLink RX0 22 "NetHouse$Balance" "rows" "I") (by decide +kernel)) (fun _ h9 => h9) rfl dX0_firstWith_4 ?_
    refine lv_icmp_ge (tgt := 43) hx hb dX0_firstWith_7 (by decide) (fun c1 => ?_) (fun c2 => ?_)
    · have hw := hw.1 c1
      exact hk _ _ _ _ hw hP hD hS (lv_sub hl [] rfl)
    · have hw := hw.2 c2
      refine lv_aload_n hx hb dX0_firstWith_10 rfl (lv_at hl 0 rfl) ?_
      refine va_get (D := (dC, dI)) (ci := 0) (v := .ref (ad_p0 0)) (C := RX0) (T := TX0) (N := 5) hx hb hts iX0 hown hK hP 0 rfl rfl 0 (by decide) (hts (.fieldLink RX0 11 "NetHouse$Balance" "out" "[I") (by decide +kernel)) (fun _ h9 => h9) rfl dX0_firstWith_11 ?_
      refine lv_iload_n hx hb dX0_firstWith_14 rfl (lv_at hl 2 rfl) ?_
      refine va_iald hx hb hK hP 2 0 rfl rfl hw.1 dX0_firstWith_15 ?_
      have hw := hw.2
      refine lv_if_ne (tgt := 37) hx hb dX0_firstWith_16 (by decide) (fun c3 => ?_) (fun c4 => ?_)
      · have hw := hw.1 c3
        obtain ⟨x5, ex5⟩ : ∃ y : Int32, y = v2 + (1 : Int32) := ⟨_, rfl⟩
        have hw := hw x5 ex5
        refine lv_iinc (v := x5) (lv' := [(2, .int x5), (0, .ref h_p0), (1, .int v1)]) hx hb dX0_firstWith_37 hl (k := 2) rfl (by rw [ex5]; rfl) (by decide) rfl (fun ls hl => ?_)
        refine lv_goto (tgt := 2) hx hb dX0_firstWith_40 (by decide) ?_
        exact ih _ hw _ _ _ hP hD hS (lv_sub hl [1, 2, 0] rfl)
      · have hw := hw.2 c4
        refine lv_aload_n hx hb dX0_firstWith_19 rfl (lv_at hl 0 rfl) ?_
        refine va_get (D := (dC, dI)) (ci := 0) (v := .ref (ad_p0 1)) (C := RX0) (T := TX0) (N := 5) hx hb hts iX0 hown hK hP 0 rfl rfl 1 (by decide) (hts (.fieldLink RX0 15 "NetHouse$Balance" "cells" "[J") (by decide +kernel)) (fun _ h9 => h9) rfl dX0_firstWith_20 ?_
        refine lv_iload_n hx hb dX0_firstWith_23 rfl (lv_at hl 2 rfl) ?_
        refine lv_bipush (v := 32) hx hb dX0_firstWith_24 (by decide) ?_
        refine lv_imul hx hb dX0_firstWith_26 ?_
        refine lv_iload_n hx hb dX0_firstWith_27 rfl (lv_at hl 1 rfl) ?_
        refine lv_iadd hx hb dX0_firstWith_28 ?_
        refine va_lald hx hb hK hP 1 1 rfl rfl hw.1 dX0_firstWith_29 ?_
        have hw := hw.2
        refine lv_lconst (v := 0) hx hb dX0_firstWith_30 (by decide) ?_
        refine W.lcmp hx hb dX0_firstWith_31 ?_
        refine lv_if_eq (tgt := 37) hx hb dX0_firstWith_32 (by decide) (fun c6 => ?_) (fun c7 => ?_)
        · have hw := hw.1 c6
          obtain ⟨x8, ex8⟩ : ∃ y : Int32, y = v2 + (1 : Int32) := ⟨_, rfl⟩
          have hw := hw x8 ex8
          refine lv_iinc (v := x8) (lv' := [(2, .int x8), (0, .ref h_p0), (1, .int v1)]) hx hb dX0_firstWith_37 hl (k := 2) rfl (by rw [ex8]; rfl) (by decide) rfl (fun ls hl => ?_)
          refine lv_goto (tgt := 2) hx hb dX0_firstWith_40 (by decide) ?_
          exact ih _ hw _ _ _ hP hD hS (lv_sub hl [1, 2, 0] rfl)
        · have hw := hw.2 c7
          refine lv_iload_n hx hb dX0_firstWith_35 rfl (lv_at hl 2 rfl) ?_
          exact x_iret (w1 := fun (u : Unit) => (wld_X0_firstWith cI cJ cZ h_p0 ad_p0 p0_rows p0_size p0_cells p0_out)) hx hb hr hlocks () hw hP hD hS dX0_firstWith_36
set_option maxHeartbeats 4000000 in
set_option maxRecDepth 100000 in
theorem c_X0_firstWith {l : Launch} {dC : Nat → ClassId} {dI : Nat → Nat → Nat} {sz : Nat} {cI cJ cZ : ClassId} {h_p0 : Nat} {ad_p0 : Nat → Nat} {p0_rows : Int32} {p0_size : Int32} {p0_cells : Nat → Int64} {p0_out : Nat → Int32} {a1 : Int32} {post : Int32 → Prop} (hw : w_X0_firstWith p0_rows p0_cells p0_out a1 post) : Met l yX0_firstWith wsX0_firstWith ({ frames := 0, cells := 0, slots := 0, locals := 0 }) (va_Pc [.ref h_p0, .int a1] (xPre (dC, dI) cI cJ cZ (wld_X0_firstWith cI cJ cZ h_p0 ad_p0 p0_rows p0_size p0_cells p0_out) sz)) (q_X0_firstWith dC dI cI cJ cZ h_p0 ad_p0 p0_rows p0_size p0_cells p0_out post (va_A (wld_X0_firstWith cI cJ cZ h_p0 ad_p0 p0_rows p0_size p0_cells p0_out) sz)) 0 0 (va_A (wld_X0_firstWith cI cJ cZ h_p0 ad_p0 p0_rows p0_size p0_cells p0_out) sz) := by
  refine x_met (cc := cX0_firstWith) (maxL := 3) (ret := (some .int)) (own := RX0) (Qc := fun A => (q_X0_firstWith dC dI cI cJ cZ h_p0 ad_p0 p0_rows p0_size p0_cells p0_out post A)) (by decide) rfl rfl (Nat.le_of_ble_eq_true rfl) ?_
  intro p e s m args below meth c A ls E0 hP hD hS hl
  obtain ⟨hx, hb, hr, hml, hown, hts, hlocks, hK, hA, n1, n2⟩ := id E0
  have iX0 : ∀ w ∈ u_ws RX0 TX0 5, w ∈ wsX0_firstWith := fun w h => List.mem_cons_of_mem _ (List.mem_append_right _ h)
  have hS0 := hS
  have hl : lv_has ls 3 [(0, .ref h_p0), (1, .int a1)] := hl
  unfold w_X0_firstWith at hw
  obtain ⟨H, hH⟩ : ∃ H, H = s.heap := ⟨_, rfl⟩
  have hS : va_S A s.heap H [] := by rw [hH]; exact hS
  have hP : va_P (dC, dI) vwCl (wld_X0_firstWith cI cJ cZ h_p0 ad_p0 p0_rows p0_size p0_cells p0_out) H := by rw [hH]; exact hP
  suffices hG : W p l e ({ frames := 0, cells := 0, slots := 0, locals := 0 }) s m args below meth c H [] 0 0 (MQ below (q_X0_firstWith dC dI cI cJ cZ h_p0 ad_p0 p0_rows p0_size p0_cells p0_out post A) args s 0 0 A) (F0 m 0 ls []) by rw [hH] at hG; exact hG
  clear hH
  refine lv_iconst (v := 0) hx hb dX0_firstWith_0 (by decide) ?_
  refine lv_istore_n (lv' := [(2, .int (0 : Int32)), (0, .ref h_p0), (1, .int a1)]) hx hb dX0_firstWith_1 rfl hl (by decide) rfl (fun ls hl => ?_)
  obtain ⟨n9, hw⟩ := hw
  refine c_X0_firstWith_L2 (l := l)  E0 ?_ n9 _ hw _ _ _ hP hD hS (lv_sub hl [1, 2, 0] rfl)
  · intro v10 H locs ls hw hP hD hS hl
    have hP : va_P (dC, dI) vwCl (wld_X0_firstWith cI cJ cZ h_p0 ad_p0 p0_rows p0_size p0_cells p0_out) H := hP
    have hD : va_D A (wld_X0_firstWith cI cJ cZ h_p0 ad_p0 p0_rows p0_size p0_cells p0_out) := hD
    refine lv_iconst (v := -1) hx hb dX0_firstWith_43 (by decide) ?_
    exact x_iret (w1 := fun (u : Unit) => (wld_X0_firstWith cI cJ cZ h_p0 ad_p0 p0_rows p0_size p0_cells p0_out)) hx hb hr hlocks () hw hP hD hS dX0_firstWith_44
abbrev wld_X0_clearColumn (cI cJ cZ : ClassId) (h_p0 : Nat) (ad_p0 : Nat → Nat) (p0_rows : Int32) (p0_size : Int32) (p0_cells : Nat → Int64) (p0_out : Nat → Int32) : va_W := [(h_p0, .inr (0, [.ref (ad_p0 0), .ref (ad_p0 1), .ref (ad_p0 2), .int p0_rows, .int p0_size])), ((ad_p0 1), .inl (cJ, 512, .inr (.inl p0_cells))), ((ad_p0 0), .inl (cI, 16, .inl p0_out))]
abbrev q_X0_clearColumn (dC : Nat → ClassId) (dI : Nat → Nat → Nat) (cI cJ cZ : ClassId) (h_p0 : Nat) (ad_p0 : Nat → Nat) (p0_rows : Int32) (p0_size : Int32) (p0_cells : Nat → Int64) (p0_out : Nat → Int32) (post : Int32 → (Nat → Int64) → (Nat → Int32) → Prop) (A : Nat → Prop) : Array Value → State → Outcome → State → Prop := va_Qi (fun r (u : (Nat → Int64) × (Nat → Int32)) => post r (u.1) (u.2)) (fun (u : (Nat → Int64) × (Nat → Int32)) t => xPost (dC, dI) A (wld_X0_clearColumn cI cJ cZ h_p0 ad_p0 p0_rows p0_size (u.1) (u.2)) t) A
def w_X0_clearColumn_L21b (v1 : Int32) (v2 : Int32) (p0_rows : Int32) (p0_out : Nat → Int32) (post : Int32 → (Nat → Int64) → (Nat → Int32) → Prop) (K : (Int32) → (Nat → Int64) → Prop) (rec : (Int32) → (Nat → Int64) → Prop) (v3 : Int32) (p0_cells : Nat → Int64) : Prop :=
    (p0_rows ≤ v3 →
      K v3 p0_cells) ∧
    (¬ p0_rows ≤ v3 →
      vp_in v3 16 ∧
      (¬ (p0_out v3.toNatClampNeg) = 0 →
        ∀ x8 : Int32, x8 = v3 + (1 : Int32) →
        rec x8 p0_cells) ∧
      ((p0_out v3.toNatClampNeg) = 0 →
        vp_in ((v3 * (32 : Int32)) + v1) 512 ∧
        ((lg_cmp (p0_cells ((v3 * (32 : Int32)) + v1).toNatClampNeg) (0 : Int64)) = 0 →
          ∀ x11 : Int32, x11 = v3 + (1 : Int32) →
          rec x11 p0_cells) ∧
        (¬ (lg_cmp (p0_cells ((v3 * (32 : Int32)) + v1).toNatClampNeg) (0 : Int64)) = 0 →
          w_X0_combine p0_cells v3 v2 v1 (fun r12 y13 =>
          (¬ r12 = 0 →
            ∀ x16 : Int32, x16 = v3 + (1 : Int32) →
            rec x16 y13) ∧
          (r12 = 0 →
            (post (0 : Int32) y13 p0_out))))))
def w_X0_clearColumn_L21 (v1 : Int32) (v2 : Int32) (p0_rows : Int32) (p0_out : Nat → Int32) (post : Int32 → (Nat → Int64) → (Nat → Int32) → Prop) (K : (Int32) → (Nat → Int64) → Prop) : Nat → (Int32) → (Nat → Int64) → Prop
  | 0, _, _ => False
  | n + 1, v3, p0_cells => w_X0_clearColumn_L21b v1 v2 p0_rows p0_out post K (w_X0_clearColumn_L21 v1 v2 p0_rows p0_out post K n) v3 p0_cells
def w_X0_clearColumn (p0_rows : Int32) (p0_cells : Nat → Int64) (p0_out : Nat → Int32) (a1 : Int32) (post : Int32 → (Nat → Int64) → (Nat → Int32) → Prop) : Prop :=
  w_X0_firstWith p0_rows p0_cells p0_out a1 (fun r1 =>
  (0 ≤ r1 →
    vp_in r1 16 ∧
    ∃ n : Nat, w_X0_clearColumn_L21 a1 r1 p0_rows (upd p0_out r1.toNatClampNeg (1 : Int32)) post (fun v18 s19 =>
        (post (1 : Int32) s19 (upd p0_out r1.toNatClampNeg (1 : Int32)))) n (0 : Int32) p0_cells) ∧
  (¬ 0 ≤ r1 →
    (post (1 : Int32) p0_cells p0_out)))
set_option maxHeartbeats 4000000 in
set_option maxRecDepth 100000 in
theorem c_X0_clearColumn_L21 {p : Program} {l : Launch} {e : Env} {s : State} {m : MethodId} {args : Array Value} {below : List Frame} {meth : Method} {c : Code} {dC : Nat → ClassId} {dI : Nat → Nat → Nat} {A : Nat → Prop} {cI cJ cZ : ClassId} {h_p0 : Nat} {ad_p0 : Nat → Nat} {p0_rows : Int32} {p0_size : Int32} {p0_out : Nat → Int32} {v1 : Int32} {v2 : Int32} {z_p0_cells : Nat → Int64} {post : Int32 → (Nat → Int64) → (Nat → Int32) → Prop} {K : (Int32) → (Nat → Int64) → Prop} (E0 : xEnv p s m args meth c cX0_clearColumn (some .boolean) 4 RX0 wsX0_clearColumn (dC, dI) cI cJ cZ A) (hk : ∀ (v3 : Int32) (p0_cells : Nat → Int64) (H : Heap) (locs : List Loc) (ls : Array Slot), K v3 p0_cells → va_P (dC, dI) vwCl (wld_X0_clearColumn cI cJ cZ h_p0 ad_p0 p0_rows p0_size p0_cells p0_out) H → va_D A (wld_X0_clearColumn cI cJ cZ h_p0 ad_p0 p0_rows p0_size p0_cells p0_out) → va_S A s.heap H locs → lv_has ls 4 [] → W p l e ({ frames := 2, cells := 0, slots := 0, locals := 62 }) s m args below meth c H locs 0 0 (MQ below (q_X0_clearColumn dC dI cI cJ cZ h_p0 ad_p0 p0_rows p0_size z_p0_cells p0_out post A) args s 0 0 A) (F0 m 72 ls [])) : ∀ (n : Nat) (v3 : Int32) (p0_cells : Nat → Int64), w_X0_clearColumn_L21 v1 v2 p0_rows p0_out post K n v3 p0_cells → ∀ (H : Heap) (locs : List Loc) (ls : Array Slot), va_P (dC, dI) vwCl (wld_X0_clearColumn cI cJ cZ h_p0 ad_p0 p0_rows p0_size p0_cells p0_out) H → va_D A (wld_X0_clearColumn cI cJ cZ h_p0 ad_p0 p0_rows p0_size p0_cells p0_out) → va_S A s.heap H locs → lv_has ls 4 [(0, .ref h_p0), (1, .int v1), (2, .int v2), (3, .int v3)] → W p l e ({ frames := 2, cells := 0, slots := 0, locals := 62 }) s m args below meth c H locs 0 0 (MQ below (q_X0_clearColumn dC dI cI cJ cZ h_p0 ad_p0 p0_rows p0_size z_p0_cells p0_out post A) args s 0 0 A) (F0 m 21 ls []) := by
  obtain ⟨hx, hb, hr, hml, hown, hts, hlocks, hK, hA, n1, n2⟩ := id E0
  have iX0 : ∀ w ∈ u_ws RX0 TX0 5, w ∈ wsX0_clearColumn := fun w h => List.mem_cons_of_mem _ (List.mem_append_right _ h)
  intro n
  induction n with
  | zero => intro v3 p0_cells hw; exact hw.elim
  | succ n ih =>
    intro v3 p0_cells hw H locs ls hP hD hS hl
    have hw : w_X0_clearColumn_L21b v1 v2 p0_rows p0_out post K (w_X0_clearColumn_L21 v1 v2 p0_rows p0_out post K n) v3 p0_cells := hw
    unfold w_X0_clearColumn_L21b at hw
    refine lv_iload_n hx hb dX0_clearColumn_21 rfl (lv_at hl 3 rfl) ?_
    refine lv_aload_n hx hb dX0_clearColumn_22 rfl (lv_at hl 0 rfl) ?_
    refine va_get (D := (dC, dI)) (ci := 0) (v := .int p0_rows) (C := RX0) (T := TX0) (N := 5) hx hb hts iX0 hown hK hP 0 rfl rfl 3 (by decide) (hts (.fieldLink RX0 22 "NetHouse$Balance" "rows" "I") (by decide +kernel)) (fun _ h9 => h9) rfl dX0_clearColumn_23 ?_
    refine lv_icmp_ge (tgt := 72) hx hb dX0_clearColumn_26 (by decide) (fun c4 => ?_) (fun c5 => ?_)
    · have hw := hw.1 c4
      exact hk _ _ _ _ _ hw hP hD hS (lv_sub hl [] rfl)
    · have hw := hw.2 c5
      refine lv_aload_n hx hb dX0_clearColumn_29 rfl (lv_at hl 0 rfl) ?_
      refine va_get (D := (dC, dI)) (ci := 0) (v := .ref (ad_p0 0)) (C := RX0) (T := TX0) (N := 5) hx hb hts iX0 hown hK hP 0 rfl rfl 0 (by decide) (hts (.fieldLink RX0 11 "NetHouse$Balance" "out" "[I") (by decide +kernel)) (fun _ h9 => h9) rfl dX0_clearColumn_30 ?_
      refine lv_iload_n hx hb dX0_clearColumn_33 rfl (lv_at hl 3 rfl) ?_
      refine va_iald hx hb hK hP 2 0 rfl rfl hw.1 dX0_clearColumn_34 ?_
      have hw := hw.2
      refine lv_if_ne (tgt := 66) hx hb dX0_clearColumn_35 (by decide) (fun c6 => ?_) (fun c7 => ?_)
      · have hw := hw.1 c6
        obtain ⟨x8, ex8⟩ : ∃ y : Int32, y = v3 + (1 : Int32) := ⟨_, rfl⟩
        have hw := hw x8 ex8
        refine lv_iinc (v := x8) (lv' := [(3, .int x8), (0, .ref h_p0), (1, .int v1), (2, .int v2)]) hx hb dX0_clearColumn_66 hl (k := 3) rfl (by rw [ex8]; rfl) (by decide) rfl (fun ls hl => ?_)
        refine lv_goto (tgt := 21) hx hb dX0_clearColumn_69 (by decide) ?_
        exact ih _ _ hw _ _ _ hP hD hS (lv_sub hl [1, 2, 3, 0] rfl)
      · have hw := hw.2 c7
        refine lv_aload_n hx hb dX0_clearColumn_38 rfl (lv_at hl 0 rfl) ?_
        refine va_get (D := (dC, dI)) (ci := 0) (v := .ref (ad_p0 1)) (C := RX0) (T := TX0) (N := 5) hx hb hts iX0 hown hK hP 0 rfl rfl 1 (by decide) (hts (.fieldLink RX0 15 "NetHouse$Balance" "cells" "[J") (by decide +kernel)) (fun _ h9 => h9) rfl dX0_clearColumn_39 ?_
        refine lv_iload_n hx hb dX0_clearColumn_42 rfl (lv_at hl 3 rfl) ?_
        refine lv_bipush (v := 32) hx hb dX0_clearColumn_43 (by decide) ?_
        refine lv_imul hx hb dX0_clearColumn_45 ?_
        refine lv_iload_n hx hb dX0_clearColumn_46 rfl (lv_at hl 1 rfl) ?_
        refine lv_iadd hx hb dX0_clearColumn_47 ?_
        refine va_lald hx hb hK hP 1 1 rfl rfl hw.1 dX0_clearColumn_48 ?_
        have hw := hw.2
        refine lv_lconst (v := 0) hx hb dX0_clearColumn_49 (by decide) ?_
        refine W.lcmp hx hb dX0_clearColumn_50 ?_
        refine lv_if_eq (tgt := 66) hx hb dX0_clearColumn_51 (by decide) (fun c9 => ?_) (fun c10 => ?_)
        · have hw := hw.1 c9
          obtain ⟨x11, ex11⟩ : ∃ y : Int32, y = v3 + (1 : Int32) := ⟨_, rfl⟩
          have hw := hw x11 ex11
          refine lv_iinc (v := x11) (lv' := [(3, .int x11), (0, .ref h_p0), (1, .int v1), (2, .int v2)]) hx hb dX0_clearColumn_66 hl (k := 3) rfl (by rw [ex11]; rfl) (by decide) rfl (fun ls hl => ?_)
          refine lv_goto (tgt := 21) hx hb dX0_clearColumn_69 (by decide) ?_
          exact ih _ _ hw _ _ _ hP hD hS (lv_sub hl [1, 2, 3, 0] rfl)
        · have hw := hw.2 c10
          refine lv_aload_n hx hb dX0_clearColumn_54 rfl (lv_at hl 0 rfl) ?_
          refine lv_iload_n hx hb dX0_clearColumn_55 rfl (lv_at hl 3 rfl) ?_
          refine lv_iload_n hx hb dX0_clearColumn_56 rfl (lv_at hl 2 rfl) ?_
          refine lv_iload_n hx hb dX0_clearColumn_57 rfl (lv_at hl 1 rfl) ?_
          obtain ⟨hPc, hDc⟩ := x_sub (wc := (wld_X0_combine cI cJ cZ h_p0 ad_p0 p0_rows p0_size p0_cells)) hP hD [0, 1] (n := 3) rfl rfl (by decide +kernel)
          refine x_calli (ws' := fun (u : (Nat → Int64)) => (wld_X0_clearColumn cI cJ cZ h_p0 ad_p0 p0_rows p0_size u p0_out)) hP hD hS hA [0, 1] [2] [1, 2, 0] (n := 3) (k := 2) rfl (fun _ => rfl) rfl (by decide +kernel) (fun _ => rfl) (va_runV (As := [.int v3, .int v2, .int v1]) (rest := []) ⟨hx, hb, hml, hown, hts⟩ (c_X0_combine (l := l) (dC := dC) (dI := dI) (cI := cI) (cJ := cJ) (cZ := cZ) (sz := H.size) (h_p0 := h_p0) (ad_p0 := ad_p0) (p0_rows := p0_rows) (p0_size := p0_size) (p0_cells := p0_cells) hw) (cwV 3 hts gX0_clearColumn_X0_combine rfl rfl rfl (by decide +kernel) ⟨Nat.le_of_ble_eq_true rfl, Nat.le_of_ble_eq_true rfl⟩) ⟨xPre_blind, va_recv hK hP (ci := 0) (q0 := 0) rfl rfl, xPre_at hK hPc hDc n1 n2⟩ rfl rfl hl.1 rfl (lv_room (Nat.le_of_ble_eq_true rfl)) dX0_clearColumn_58 ⟨Nat.zero_le _, Nat.zero_le _⟩) (fun r12 u H locs hw hP hD hS => ?_)
          obtain ⟨y13, rfl⟩ : ∃ z, z = u := ⟨_, rfl⟩
          try dsimp only at hw
          have hP : va_P (dC, dI) vwCl (wld_X0_clearColumn cI cJ cZ h_p0 ad_p0 p0_rows p0_size y13 p0_out) H := hP
          have hD : va_D A (wld_X0_clearColumn cI cJ cZ h_p0 ad_p0 p0_rows p0_size y13 p0_out) := hD
          refine lv_if_ne (tgt := 66) hx hb dX0_clearColumn_61 (by decide) (fun c14 => ?_) (fun c15 => ?_)
          · have hw := hw.1 c14
            obtain ⟨x16, ex16⟩ : ∃ y : Int32, y = v3 + (1 : Int32) := ⟨_, rfl⟩
            have hw := hw x16 ex16
            refine lv_iinc (v := x16) (lv' := [(3, .int x16), (0, .ref h_p0), (1, .int v1), (2, .int v2)]) hx hb dX0_clearColumn_66 hl (k := 3) rfl (by rw [ex16]; rfl) (by decide) rfl (fun ls hl => ?_)
            refine lv_goto (tgt := 21) hx hb dX0_clearColumn_69 (by decide) ?_
            exact ih _ _ hw _ _ _ hP hD hS (lv_sub hl [1, 2, 3, 0] rfl)
          · have hw := hw.2 c15
            refine lv_iconst (v := 0) hx hb dX0_clearColumn_64 (by decide) ?_
            exact x_zret (w1 := fun (u : (Nat → Int64) × (Nat → Int32)) => (wld_X0_clearColumn cI cJ cZ h_p0 ad_p0 p0_rows p0_size (u.1) (u.2))) hx hb hr hlocks (by decide) (y13, p0_out) hw hP hD hS dX0_clearColumn_65
set_option maxHeartbeats 4000000 in
set_option maxRecDepth 100000 in
theorem c_X0_clearColumn {l : Launch} {dC : Nat → ClassId} {dI : Nat → Nat → Nat} {sz : Nat} {cI cJ cZ : ClassId} {h_p0 : Nat} {ad_p0 : Nat → Nat} {p0_rows : Int32} {p0_size : Int32} {p0_cells : Nat → Int64} {p0_out : Nat → Int32} {a1 : Int32} {post : Int32 → (Nat → Int64) → (Nat → Int32) → Prop} (hw : w_X0_clearColumn p0_rows p0_cells p0_out a1 post) : Met l yX0_clearColumn wsX0_clearColumn ({ frames := 2, cells := 0, slots := 0, locals := 62 }) (va_Pc [.ref h_p0, .int a1] (xPre (dC, dI) cI cJ cZ (wld_X0_clearColumn cI cJ cZ h_p0 ad_p0 p0_rows p0_size p0_cells p0_out) sz)) (q_X0_clearColumn dC dI cI cJ cZ h_p0 ad_p0 p0_rows p0_size p0_cells p0_out post (va_A (wld_X0_clearColumn cI cJ cZ h_p0 ad_p0 p0_rows p0_size p0_cells p0_out) sz)) 0 0 (va_A (wld_X0_clearColumn cI cJ cZ h_p0 ad_p0 p0_rows p0_size p0_cells p0_out) sz) := by
  refine x_met (cc := cX0_clearColumn) (maxL := 4) (ret := (some .boolean)) (own := RX0) (Qc := fun A => (q_X0_clearColumn dC dI cI cJ cZ h_p0 ad_p0 p0_rows p0_size p0_cells p0_out post A)) (by decide) rfl rfl (Nat.le_of_ble_eq_true rfl) ?_
  intro p e s m args below meth c A ls E0 hP hD hS hl
  obtain ⟨hx, hb, hr, hml, hown, hts, hlocks, hK, hA, n1, n2⟩ := id E0
  have iX0 : ∀ w ∈ u_ws RX0 TX0 5, w ∈ wsX0_clearColumn := fun w h => List.mem_cons_of_mem _ (List.mem_append_right _ h)
  have hS0 := hS
  have hl : lv_has ls 4 [(0, .ref h_p0), (1, .int a1)] := hl
  unfold w_X0_clearColumn at hw
  obtain ⟨H, hH⟩ : ∃ H, H = s.heap := ⟨_, rfl⟩
  have hS : va_S A s.heap H [] := by rw [hH]; exact hS
  have hP : va_P (dC, dI) vwCl (wld_X0_clearColumn cI cJ cZ h_p0 ad_p0 p0_rows p0_size p0_cells p0_out) H := by rw [hH]; exact hP
  suffices hG : W p l e ({ frames := 2, cells := 0, slots := 0, locals := 62 }) s m args below meth c H [] 0 0 (MQ below (q_X0_clearColumn dC dI cI cJ cZ h_p0 ad_p0 p0_rows p0_size p0_cells p0_out post A) args s 0 0 A) (F0 m 0 ls []) by rw [hH] at hG; exact hG
  clear hH
  refine lv_aload_n hx hb dX0_clearColumn_0 rfl (lv_at hl 0 rfl) ?_
  refine lv_iload_n hx hb dX0_clearColumn_1 rfl (lv_at hl 1 rfl) ?_
  obtain ⟨hPc, hDc⟩ := x_sub (wc := (wld_X0_firstWith cI cJ cZ h_p0 ad_p0 p0_rows p0_size p0_cells p0_out)) hP hD [0, 1, 2] (n := 3) rfl rfl (by decide +kernel)
  refine x_calli (ws' := fun (u : Unit) => (wld_X0_clearColumn cI cJ cZ h_p0 ad_p0 p0_rows p0_size p0_cells p0_out)) hP hD hS hA [0, 1, 2] [] [0, 1, 2] (n := 3) (k := 3) rfl (fun _ => rfl) rfl (by decide +kernel) (fun _ => rfl) (va_runV (As := [.int a1]) (rest := []) ⟨hx, hb, hml, hown, hts⟩ (c_X0_firstWith (l := l) (dC := dC) (dI := dI) (cI := cI) (cJ := cJ) (cZ := cZ) (sz := H.size) (h_p0 := h_p0) (ad_p0 := ad_p0) (p0_rows := p0_rows) (p0_size := p0_size) (p0_cells := p0_cells) (p0_out := p0_out) hw) (cwV 1 hts gX0_clearColumn_X0_firstWith rfl rfl rfl (by decide +kernel) ⟨Nat.le_of_ble_eq_true rfl, Nat.le_of_ble_eq_true rfl⟩) ⟨xPre_blind, va_recv hK hP (ci := 0) (q0 := 0) rfl rfl, xPre_at hK hPc hDc n1 n2⟩ rfl rfl hl.1 rfl (lv_room (Nat.le_of_ble_eq_true rfl)) dX0_clearColumn_2 ⟨Nat.zero_le _, Nat.zero_le _⟩) (fun r1 u H locs hw hP hD hS => ?_)
  try dsimp only at hw
  have hP : va_P (dC, dI) vwCl (wld_X0_clearColumn cI cJ cZ h_p0 ad_p0 p0_rows p0_size p0_cells p0_out) H := hP
  have hD : va_D A (wld_X0_clearColumn cI cJ cZ h_p0 ad_p0 p0_rows p0_size p0_cells p0_out) := hD
  refine lv_istore_n (lv' := [(2, .int r1), (0, .ref h_p0), (1, .int a1)]) hx hb dX0_clearColumn_5 rfl hl (by decide) rfl (fun ls hl => ?_)
  refine lv_iload_n hx hb dX0_clearColumn_6 rfl (lv_at hl 0 rfl) ?_
  refine lv_if_ge (tgt := 12) hx hb dX0_clearColumn_7 (by decide) (fun c2 => ?_) (fun c3 => ?_)
  · have hw := hw.1 c2
    refine lv_aload_n hx hb dX0_clearColumn_12 rfl (lv_at hl 1 rfl) ?_
    refine va_get (D := (dC, dI)) (ci := 0) (v := .ref (ad_p0 0)) (C := RX0) (T := TX0) (N := 5) hx hb hts iX0 hown hK hP 0 rfl rfl 0 (by decide) (hts (.fieldLink RX0 11 "NetHouse$Balance" "out" "[I") (by decide +kernel)) (fun _ h9 => h9) rfl dX0_clearColumn_13 ?_
    refine lv_iload_n hx hb dX0_clearColumn_16 rfl (lv_at hl 0 rfl) ?_
    refine lv_iconst (v := 1) hx hb dX0_clearColumn_17 (by decide) ?_
    refine va_iast hx hb hK hP hD hS 2 0 rfl rfl hw.1 dX0_clearColumn_18 (fun H locs hP hD hS => ?_)
    have hw := hw.2
    have hP : va_P (dC, dI) vwCl (wld_X0_clearColumn cI cJ cZ h_p0 ad_p0 p0_rows p0_size p0_cells (upd p0_out r1.toNatClampNeg (1 : Int32))) H := hP
    have hD : va_D A (wld_X0_clearColumn cI cJ cZ h_p0 ad_p0 p0_rows p0_size p0_cells (upd p0_out r1.toNatClampNeg (1 : Int32))) := hD
    refine lv_iconst (v := 0) hx hb dX0_clearColumn_19 (by decide) ?_
    refine lv_istore_n (lv' := [(3, .int (0 : Int32)), (2, .int r1), (0, .ref h_p0), (1, .int a1)]) hx hb dX0_clearColumn_20 rfl hl (by decide) rfl (fun ls hl => ?_)
    obtain ⟨n17, hw⟩ := hw
    refine c_X0_clearColumn_L21 (l := l) (z_p0_cells := p0_cells) E0 ?_ n17 _ _ hw _ _ _ hP hD hS (lv_sub hl [2, 3, 1, 0] rfl)
    · intro v18 s19 H locs ls hw hP hD hS hl
      have hP : va_P (dC, dI) vwCl (wld_X0_clearColumn cI cJ cZ h_p0 ad_p0 p0_rows p0_size s19 (upd p0_out r1.toNatClampNeg (1 : Int32))) H := hP
      have hD : va_D A (wld_X0_clearColumn cI cJ cZ h_p0 ad_p0 p0_rows p0_size s19 (upd p0_out r1.toNatClampNeg (1 : Int32))) := hD
      refine lv_iconst (v := 1) hx hb dX0_clearColumn_72 (by decide) ?_
      exact x_zret (w1 := fun (u : (Nat → Int64) × (Nat → Int32)) => (wld_X0_clearColumn cI cJ cZ h_p0 ad_p0 p0_rows p0_size (u.1) (u.2))) hx hb hr hlocks (by decide) (s19, (upd p0_out r1.toNatClampNeg (1 : Int32))) hw hP hD hS dX0_clearColumn_73
  · have hw := hw.2 c3
    refine lv_iconst (v := 1) hx hb dX0_clearColumn_10 (by decide) ?_
    exact x_zret (w1 := fun (u : (Nat → Int64) × (Nat → Int32)) => (wld_X0_clearColumn cI cJ cZ h_p0 ad_p0 p0_rows p0_size (u.1) (u.2))) hx hb hr hlocks (by decide) (p0_cells, p0_out) hw hP hD hS dX0_clearColumn_11
abbrev wld_X0_signOf (cI cJ cZ : ClassId) (h_p0 : Nat) (ad_p0 : Nat → Nat) (p0_rows : Int32) (p0_size : Int32) (p0_cells : Nat → Int64) : va_W := [(h_p0, .inr (0, [.ref (ad_p0 0), .ref (ad_p0 1), .ref (ad_p0 2), .int p0_rows, .int p0_size])), ((ad_p0 1), .inl (cJ, 512, .inr (.inl p0_cells)))]
abbrev q_X0_signOf (dC : Nat → ClassId) (dI : Nat → Nat → Nat) (cI cJ cZ : ClassId) (h_p0 : Nat) (ad_p0 : Nat → Nat) (p0_rows : Int32) (p0_size : Int32) (p0_cells : Nat → Int64) (post : Int32 → Prop) (A : Nat → Prop) : Array Value → State → Outcome → State → Prop := va_Qi (fun r (u : Unit) => post r ) (fun (u : Unit) t => xPost (dC, dI) A (wld_X0_signOf cI cJ cZ h_p0 ad_p0 p0_rows p0_size p0_cells) t) A
def w_X0_signOf_L2b (v1 : Int32) (p0_rows : Int32) (p0_cells : Nat → Int64) (post : Int32 → Prop) (K : (Int32) → Prop) (rec : (Int32) → Prop) (v2 : Int32) : Prop :=
    (p0_rows ≤ v2 →
      K v2) ∧
    (¬ p0_rows ≤ v2 →
      vp_in (((v1 * (32 : Int32)) + (16 : Int32)) + v2) 512 ∧
      ∀ x3 : Int64, x3 = (p0_cells (((v1 * (32 : Int32)) + (16 : Int32)) + v2).toNatClampNeg) →
      ((lg_cmp x3 (0 : Int64)) = 0 →
        ∀ x6 : Int32, x6 = v2 + (1 : Int32) →
        rec x6) ∧
      (¬ (lg_cmp x3 (0 : Int64)) = 0 →
        (0 ≤ (lg_cmp x3 (0 : Int64)) →
          (post (1 : Int32))) ∧
        (¬ 0 ≤ (lg_cmp x3 (0 : Int64)) →
          (post (-1 : Int32)))))
def w_X0_signOf_L2 (v1 : Int32) (p0_rows : Int32) (p0_cells : Nat → Int64) (post : Int32 → Prop) (K : (Int32) → Prop) : Nat → (Int32) → Prop
  | 0, _ => False
  | n + 1, v2 => w_X0_signOf_L2b v1 p0_rows p0_cells post K (w_X0_signOf_L2 v1 p0_rows p0_cells post K n) v2
def w_X0_signOf (p0_rows : Int32) (p0_cells : Nat → Int64) (a1 : Int32) (post : Int32 → Prop) : Prop :=
  ∃ n : Nat, w_X0_signOf_L2 a1 p0_rows p0_cells post (fun v10 =>
      (post (1 : Int32))) n (0 : Int32)
set_option maxHeartbeats 4000000 in
set_option maxRecDepth 100000 in
theorem c_X0_signOf_L2 {p : Program} {l : Launch} {e : Env} {s : State} {m : MethodId} {args : Array Value} {below : List Frame} {meth : Method} {c : Code} {dC : Nat → ClassId} {dI : Nat → Nat → Nat} {A : Nat → Prop} {cI cJ cZ : ClassId} {h_p0 : Nat} {ad_p0 : Nat → Nat} {p0_rows : Int32} {p0_size : Int32} {p0_cells : Nat → Int64} {v1 : Int32}  {post : Int32 → Prop} {K : (Int32) → Prop} (E0 : xEnv p s m args meth c cX0_signOf (some .int) 5 RX0 wsX0_signOf (dC, dI) cI cJ cZ A) (hk : ∀ (v2 : Int32) (H : Heap) (locs : List Loc) (ls : Array Slot), K v2 → va_P (dC, dI) vwCl (wld_X0_signOf cI cJ cZ h_p0 ad_p0 p0_rows p0_size p0_cells) H → va_D A (wld_X0_signOf cI cJ cZ h_p0 ad_p0 p0_rows p0_size p0_cells) → va_S A s.heap H locs → lv_has ls 5 [] → W p l e ({ frames := 0, cells := 0, slots := 0, locals := 0 }) s m args below meth c H locs 0 0 (MQ below (q_X0_signOf dC dI cI cJ cZ h_p0 ad_p0 p0_rows p0_size p0_cells post A) args s 0 0 A) (F0 m 49 ls [])) : ∀ (n : Nat) (v2 : Int32), w_X0_signOf_L2 v1 p0_rows p0_cells post K n v2 → ∀ (H : Heap) (locs : List Loc) (ls : Array Slot), va_P (dC, dI) vwCl (wld_X0_signOf cI cJ cZ h_p0 ad_p0 p0_rows p0_size p0_cells) H → va_D A (wld_X0_signOf cI cJ cZ h_p0 ad_p0 p0_rows p0_size p0_cells) → va_S A s.heap H locs → lv_has ls 5 [(0, .ref h_p0), (1, .int v1), (2, .int v2)] → W p l e ({ frames := 0, cells := 0, slots := 0, locals := 0 }) s m args below meth c H locs 0 0 (MQ below (q_X0_signOf dC dI cI cJ cZ h_p0 ad_p0 p0_rows p0_size p0_cells post A) args s 0 0 A) (F0 m 2 ls []) := by
  obtain ⟨hx, hb, hr, hml, hown, hts, hlocks, hK, hA, n1, n2⟩ := id E0
  have iX0 : ∀ w ∈ u_ws RX0 TX0 5, w ∈ wsX0_signOf := fun w h => List.mem_cons_of_mem _ (List.mem_append_right _ h)
  intro n
  induction n with
  | zero => intro v2 hw; exact hw.elim
  | succ n ih =>
    intro v2 hw H locs ls hP hD hS hl
    have hw : w_X0_signOf_L2b v1 p0_rows p0_cells post K (w_X0_signOf_L2 v1 p0_rows p0_cells post K n) v2 := hw
    unfold w_X0_signOf_L2b at hw
    refine lv_iload_n hx hb dX0_signOf_2 rfl (lv_at hl 2 rfl) ?_
    refine lv_aload_n hx hb dX0_signOf_3 rfl (lv_at hl 0 rfl) ?_
    refine va_get (D := (dC, dI)) (ci := 0) (v := .int p0_rows) (C := RX0) (T := TX0) (N := 5) hx hb hts iX0 hown hK hP 0 rfl rfl 3 (by decide) (hts (.fieldLink RX0 22 "NetHouse$Balance" "rows" "I") (by decide +kernel)) (fun _ h9 => h9) rfl dX0_signOf_4 ?_
    refine lv_icmp_ge (tgt := 49) hx hb dX0_signOf_7 (by decide) (fun c1 => ?_) (fun c2 => ?_)
    · have hw := hw.1 c1
      exact hk _ _ _ _ hw hP hD hS (lv_sub hl [] rfl)
    · have hw := hw.2 c2
      refine lv_aload_n hx hb dX0_signOf_10 rfl (lv_at hl 0 rfl) ?_
      refine va_get (D := (dC, dI)) (ci := 0) (v := .ref (ad_p0 1)) (C := RX0) (T := TX0) (N := 5) hx hb hts iX0 hown hK hP 0 rfl rfl 1 (by decide) (hts (.fieldLink RX0 15 "NetHouse$Balance" "cells" "[J") (by decide +kernel)) (fun _ h9 => h9) rfl dX0_signOf_11 ?_
      refine lv_iload_n hx hb dX0_signOf_14 rfl (lv_at hl 1 rfl) ?_
      refine lv_bipush (v := 32) hx hb dX0_signOf_15 (by decide) ?_
      refine lv_imul hx hb dX0_signOf_17 ?_
      refine lv_bipush (v := 16) hx hb dX0_signOf_18 (by decide) ?_
      refine lv_iadd hx hb dX0_signOf_20 ?_
      refine lv_iload_n hx hb dX0_signOf_21 rfl (lv_at hl 2 rfl) ?_
      refine lv_iadd hx hb dX0_signOf_22 ?_
      refine va_lald hx hb hK hP 1 1 rfl rfl hw.1 dX0_signOf_23 ?_
      have hw := hw.2
      refine lv_topl (fun x3 ex3 => ?_)
      have hw := hw x3 ex3
      refine lv_lstore_n (lv' := [(3, .long x3), (0, .ref h_p0), (1, .int v1), (2, .int v2)]) hx hb dX0_signOf_24 rfl hl (by decide) rfl (fun ls hl => ?_)
      refine lv_lload_n hx hb dX0_signOf_25 rfl (lv_at hl 0 rfl) ?_
      refine lv_lconst (v := 0) hx hb dX0_signOf_26 (by decide) ?_
      refine W.lcmp hx hb dX0_signOf_27 ?_
      refine lv_if_eq (tgt := 43) hx hb dX0_signOf_28 (by decide) (fun c4 => ?_) (fun c5 => ?_)
      · have hw := hw.1 c4
        obtain ⟨x6, ex6⟩ : ∃ y : Int32, y = v2 + (1 : Int32) := ⟨_, rfl⟩
        have hw := hw x6 ex6
        refine lv_iinc (v := x6) (lv' := [(2, .int x6), (3, .long x3), (0, .ref h_p0), (1, .int v1)]) hx hb dX0_signOf_43 hl (k := 3) rfl (by rw [ex6]; rfl) (by decide) rfl (fun ls hl => ?_)
        refine lv_goto (tgt := 2) hx hb dX0_signOf_46 (by decide) ?_
        exact ih _ hw _ _ _ hP hD hS (lv_sub hl [2, 3, 0] rfl)
      · have hw := hw.2 c5
        refine lv_lload_n hx hb dX0_signOf_31 rfl (lv_at hl 0 rfl) ?_
        refine lv_lconst (v := 0) hx hb dX0_signOf_32 (by decide) ?_
        refine W.lcmp hx hb dX0_signOf_33 ?_
        refine lv_if_ge (tgt := 41) hx hb dX0_signOf_34 (by decide) (fun c7 => ?_) (fun c8 => ?_)
        · have hw := hw.1 c7
          refine lv_iconst (v := 1) hx hb dX0_signOf_41 (by decide) ?_
          exact x_iret (w1 := fun (u : Unit) => (wld_X0_signOf cI cJ cZ h_p0 ad_p0 p0_rows p0_size p0_cells)) hx hb hr hlocks () hw hP hD hS dX0_signOf_42
        · have hw := hw.2 c8
          refine lv_iconst (v := -1) hx hb dX0_signOf_37 (by decide) ?_
          refine lv_goto (tgt := 42) hx hb dX0_signOf_38 (by decide) ?_
          exact x_iret (w1 := fun (u : Unit) => (wld_X0_signOf cI cJ cZ h_p0 ad_p0 p0_rows p0_size p0_cells)) hx hb hr hlocks () hw hP hD hS dX0_signOf_42
set_option maxHeartbeats 4000000 in
set_option maxRecDepth 100000 in
theorem c_X0_signOf {l : Launch} {dC : Nat → ClassId} {dI : Nat → Nat → Nat} {sz : Nat} {cI cJ cZ : ClassId} {h_p0 : Nat} {ad_p0 : Nat → Nat} {p0_rows : Int32} {p0_size : Int32} {p0_cells : Nat → Int64} {a1 : Int32} {post : Int32 → Prop} (hw : w_X0_signOf p0_rows p0_cells a1 post) : Met l yX0_signOf wsX0_signOf ({ frames := 0, cells := 0, slots := 0, locals := 0 }) (va_Pc [.ref h_p0, .int a1] (xPre (dC, dI) cI cJ cZ (wld_X0_signOf cI cJ cZ h_p0 ad_p0 p0_rows p0_size p0_cells) sz)) (q_X0_signOf dC dI cI cJ cZ h_p0 ad_p0 p0_rows p0_size p0_cells post (va_A (wld_X0_signOf cI cJ cZ h_p0 ad_p0 p0_rows p0_size p0_cells) sz)) 0 0 (va_A (wld_X0_signOf cI cJ cZ h_p0 ad_p0 p0_rows p0_size p0_cells) sz) := by
  refine x_met (cc := cX0_signOf) (maxL := 5) (ret := (some .int)) (own := RX0) (Qc := fun A => (q_X0_signOf dC dI cI cJ cZ h_p0 ad_p0 p0_rows p0_size p0_cells post A)) (by decide) rfl rfl (Nat.le_of_ble_eq_true rfl) ?_
  intro p e s m args below meth c A ls E0 hP hD hS hl
  obtain ⟨hx, hb, hr, hml, hown, hts, hlocks, hK, hA, n1, n2⟩ := id E0
  have iX0 : ∀ w ∈ u_ws RX0 TX0 5, w ∈ wsX0_signOf := fun w h => List.mem_cons_of_mem _ (List.mem_append_right _ h)
  have hS0 := hS
  have hl : lv_has ls 5 [(0, .ref h_p0), (1, .int a1)] := hl
  unfold w_X0_signOf at hw
  obtain ⟨H, hH⟩ : ∃ H, H = s.heap := ⟨_, rfl⟩
  have hS : va_S A s.heap H [] := by rw [hH]; exact hS
  have hP : va_P (dC, dI) vwCl (wld_X0_signOf cI cJ cZ h_p0 ad_p0 p0_rows p0_size p0_cells) H := by rw [hH]; exact hP
  suffices hG : W p l e ({ frames := 0, cells := 0, slots := 0, locals := 0 }) s m args below meth c H [] 0 0 (MQ below (q_X0_signOf dC dI cI cJ cZ h_p0 ad_p0 p0_rows p0_size p0_cells post A) args s 0 0 A) (F0 m 0 ls []) by rw [hH] at hG; exact hG
  clear hH
  refine lv_iconst (v := 0) hx hb dX0_signOf_0 (by decide) ?_
  refine lv_istore_n (lv' := [(2, .int (0 : Int32)), (0, .ref h_p0), (1, .int a1)]) hx hb dX0_signOf_1 rfl hl (by decide) rfl (fun ls hl => ?_)
  obtain ⟨n9, hw⟩ := hw
  refine c_X0_signOf_L2 (l := l)  E0 ?_ n9 _ hw _ _ _ hP hD hS (lv_sub hl [1, 2, 0] rfl)
  · intro v10 H locs ls hw hP hD hS hl
    have hP : va_P (dC, dI) vwCl (wld_X0_signOf cI cJ cZ h_p0 ad_p0 p0_rows p0_size p0_cells) H := hP
    have hD : va_D A (wld_X0_signOf cI cJ cZ h_p0 ad_p0 p0_rows p0_size p0_cells) := hD
    refine lv_iconst (v := 1) hx hb dX0_signOf_49 (by decide) ?_
    exact x_iret (w1 := fun (u : Unit) => (wld_X0_signOf cI cJ cZ h_p0 ad_p0 p0_rows p0_size p0_cells)) hx hb hr hlocks () hw hP hD hS dX0_signOf_50
abbrev wld_X0_keepRest (cI cJ cZ : ClassId) (h_p0 : Nat) (ad_p0 : Nat → Nat) (p0_rows : Int32) (p0_size : Int32) (p0_cells : Nat → Int64) (p0_found : Nat → Int32) (p0_out : Nat → Int32) : va_W := [(h_p0, .inr (0, [.ref (ad_p0 0), .ref (ad_p0 1), .ref (ad_p0 2), .int p0_rows, .int p0_size])), ((ad_p0 1), .inl (cJ, 512, .inr (.inl p0_cells))), ((ad_p0 2), .inl (cI, 256, .inl p0_found)), ((ad_p0 0), .inl (cI, 16, .inl p0_out))]
abbrev q_X0_keepRest (dC : Nat → ClassId) (dI : Nat → Nat → Nat) (cI cJ cZ : ClassId) (h_p0 : Nat) (ad_p0 : Nat → Nat) (p0_rows : Int32) (p0_size : Int32) (p0_cells : Nat → Int64) (p0_found : Nat → Int32) (p0_out : Nat → Int32) (post : (Int32) → (Nat → Int32) → Prop) (A : Nat → Prop) : Array Value → State → Outcome → State → Prop := va_Qv (fun (u : (Int32) × (Nat → Int32)) => post (u.1) (u.2)) (fun (u : (Int32) × (Nat → Int32)) t => xPost (dC, dI) A (wld_X0_keepRest cI cJ cZ h_p0 ad_p0 p0_rows (u.1) p0_cells (u.2) p0_out) t) A
def w_X0_keepRest_L27b (v1 : Int32) (v2 : Int32) (p0_rows : Int32) (p0_size : Int32) (p0_cells : Nat → Int64) (p0_out : Nat → Int32) (post : (Int32) → (Nat → Int32) → Prop) (K : (Int32) → (Nat → Int32) → Prop) (rec : (Int32) → (Nat → Int32) → Prop) (v3 : Int32) (p0_found : Nat → Int32) : Prop :=
    (p0_rows ≤ v3 →
      K v3 p0_found) ∧
    (¬ p0_rows ≤ v3 →
      vp_in (((v1 * (32 : Int32)) + (16 : Int32)) + v3) 512 ∧
      vp_in ((p0_size * (16 : Int32)) + v3) 256 ∧
      ∀ x9 : Int32, x9 = v3 + (1 : Int32) →
      rec x9 (upd p0_found ((p0_size * (16 : Int32)) + v3).toNatClampNeg (v2 * (p0_cells (((v1 * (32 : Int32)) + (16 : Int32)) + v3).toNatClampNeg).toInt32)))
def w_X0_keepRest_L27 (v1 : Int32) (v2 : Int32) (p0_rows : Int32) (p0_size : Int32) (p0_cells : Nat → Int64) (p0_out : Nat → Int32) (post : (Int32) → (Nat → Int32) → Prop) (K : (Int32) → (Nat → Int32) → Prop) : Nat → (Int32) → (Nat → Int32) → Prop
  | 0, _, _ => False
  | n + 1, v3, p0_found => w_X0_keepRest_L27b v1 v2 p0_rows p0_size p0_cells p0_out post K (w_X0_keepRest_L27 v1 v2 p0_rows p0_size p0_cells p0_out post K n) v3 p0_found
def w_X0_keepRest_L2b (p0_rows : Int32) (p0_cells : Nat → Int64) (p0_out : Nat → Int32) (post : (Int32) → (Nat → Int32) → Prop) (K : (Int32) → (Int32) → (Nat → Int32) → Prop) (rec : (Int32) → (Int32) → (Nat → Int32) → Prop) (v1 : Int32) (p0_size : Int32) (p0_found : Nat → Int32) : Prop :=
    (p0_rows ≤ v1 →
      K v1 p0_size p0_found) ∧
    (¬ p0_rows ≤ v1 →
      vp_in v1 16 ∧
      (¬ (p0_out v1.toNatClampNeg) = 0 →
        ∀ x5 : Int32, x5 = v1 + (1 : Int32) →
        rec x5 p0_size p0_found) ∧
      ((p0_out v1.toNatClampNeg) = 0 →
        w_X0_signOf p0_rows p0_cells v1 (fun r6 =>
        ∃ n : Nat, w_X0_keepRest_L27 v1 r6 p0_rows p0_size p0_cells p0_out post (fun v11 s12 =>
            ∀ x13 : Int32, x13 = (p0_size + (1 : Int32)) →
            ∀ x14 : Int32, x14 = v1 + (1 : Int32) →
            rec x14 x13 s12) n (0 : Int32) p0_found)))
def w_X0_keepRest_L2 (p0_rows : Int32) (p0_cells : Nat → Int64) (p0_out : Nat → Int32) (post : (Int32) → (Nat → Int32) → Prop) (K : (Int32) → (Int32) → (Nat → Int32) → Prop) : Nat → (Int32) → (Int32) → (Nat → Int32) → Prop
  | 0, _, _, _ => False
  | n + 1, v1, p0_size, p0_found => w_X0_keepRest_L2b p0_rows p0_cells p0_out post K (w_X0_keepRest_L2 p0_rows p0_cells p0_out post K n) v1 p0_size p0_found
def w_X0_keepRest (p0_rows : Int32) (p0_size : Int32) (p0_cells : Nat → Int64) (p0_found : Nat → Int32) (p0_out : Nat → Int32) (post : (Int32) → (Nat → Int32) → Prop) : Prop :=
  ∃ n : Nat, w_X0_keepRest_L2 p0_rows p0_cells p0_out post (fun v16 s17 s18 =>
      (post s17 s18)) n (0 : Int32) p0_size p0_found
set_option maxHeartbeats 4000000 in
set_option maxRecDepth 100000 in
theorem c_X0_keepRest_L27 {p : Program} {l : Launch} {e : Env} {s : State} {m : MethodId} {args : Array Value} {below : List Frame} {meth : Method} {c : Code} {dC : Nat → ClassId} {dI : Nat → Nat → Nat} {A : Nat → Prop} {cI cJ cZ : ClassId} {h_p0 : Nat} {ad_p0 : Nat → Nat} {p0_rows : Int32} {p0_size : Int32} {p0_cells : Nat → Int64} {p0_out : Nat → Int32} {v1 : Int32} {v2 : Int32} {z_p0_found : Nat → Int32} {post : (Int32) → (Nat → Int32) → Prop} {K : (Int32) → (Nat → Int32) → Prop} (E0 : xEnv p s m args meth c cX0_keepRest none 4 RX0 wsX0_keepRest (dC, dI) cI cJ cZ A) (hk : ∀ (v3 : Int32) (p0_found : Nat → Int32) (H : Heap) (locs : List Loc) (ls : Array Slot), K v3 p0_found → va_P (dC, dI) vwCl (wld_X0_keepRest cI cJ cZ h_p0 ad_p0 p0_rows p0_size p0_cells p0_found p0_out) H → va_D A (wld_X0_keepRest cI cJ cZ h_p0 ad_p0 p0_rows p0_size p0_cells p0_found p0_out) → va_S A s.heap H locs → lv_has ls 4 [(0, .ref h_p0), (1, .int v1)] → W p l e ({ frames := 1, cells := 0, slots := 0, locals := 24 }) s m args below meth c H locs 0 0 (MQ below (q_X0_keepRest dC dI cI cJ cZ h_p0 ad_p0 p0_rows p0_size p0_cells z_p0_found p0_out post A) args s 0 0 A) (F0 m 72 ls [])) : ∀ (n : Nat) (v3 : Int32) (p0_found : Nat → Int32), w_X0_keepRest_L27 v1 v2 p0_rows p0_size p0_cells p0_out post K n v3 p0_found → ∀ (H : Heap) (locs : List Loc) (ls : Array Slot), va_P (dC, dI) vwCl (wld_X0_keepRest cI cJ cZ h_p0 ad_p0 p0_rows p0_size p0_cells p0_found p0_out) H → va_D A (wld_X0_keepRest cI cJ cZ h_p0 ad_p0 p0_rows p0_size p0_cells p0_found p0_out) → va_S A s.heap H locs → lv_has ls 4 [(0, .ref h_p0), (1, .int v1), (2, .int v2), (3, .int v3)] → W p l e ({ frames := 1, cells := 0, slots := 0, locals := 24 }) s m args below meth c H locs 0 0 (MQ below (q_X0_keepRest dC dI cI cJ cZ h_p0 ad_p0 p0_rows p0_size p0_cells z_p0_found p0_out post A) args s 0 0 A) (F0 m 27 ls []) := by
  obtain ⟨hx, hb, hr, hml, hown, hts, hlocks, hK, hA, n1, n2⟩ := id E0
  have iX0 : ∀ w ∈ u_ws RX0 TX0 5, w ∈ wsX0_keepRest := fun w h => List.mem_cons_of_mem _ (List.mem_append_right _ h)
  intro n
  induction n with
  | zero => intro v3 p0_found hw; exact hw.elim
  | succ n ih =>
    intro v3 p0_found hw H locs ls hP hD hS hl
    have hw : w_X0_keepRest_L27b v1 v2 p0_rows p0_size p0_cells p0_out post K (w_X0_keepRest_L27 v1 v2 p0_rows p0_size p0_cells p0_out post K n) v3 p0_found := hw
    unfold w_X0_keepRest_L27b at hw
    refine lv_iload_n hx hb dX0_keepRest_27 rfl (lv_at hl 3 rfl) ?_
    refine lv_aload_n hx hb dX0_keepRest_28 rfl (lv_at hl 0 rfl) ?_
    refine va_get (D := (dC, dI)) (ci := 0) (v := .int p0_rows) (C := RX0) (T := TX0) (N := 5) hx hb hts iX0 hown hK hP 0 rfl rfl 3 (by decide) (hts (.fieldLink RX0 22 "NetHouse$Balance" "rows" "I") (by decide +kernel)) (fun _ h9 => h9) rfl dX0_keepRest_29 ?_
    refine lv_icmp_ge (tgt := 72) hx hb dX0_keepRest_32 (by decide) (fun c7 => ?_) (fun c8 => ?_)
    · have hw := hw.1 c7
      exact hk _ _ _ _ _ hw hP hD hS (lv_sub hl [0, 1] rfl)
    · have hw := hw.2 c8
      refine lv_aload_n hx hb dX0_keepRest_35 rfl (lv_at hl 0 rfl) ?_
      refine va_get (D := (dC, dI)) (ci := 0) (v := .ref (ad_p0 2)) (C := RX0) (T := TX0) (N := 5) hx hb hts iX0 hown hK hP 0 rfl rfl 2 (by decide) (hts (.fieldLink RX0 19 "NetHouse$Balance" "found" "[I") (by decide +kernel)) (fun _ h9 => h9) rfl dX0_keepRest_36 ?_
      refine lv_aload_n hx hb dX0_keepRest_39 rfl (lv_at hl 0 rfl) ?_
      refine va_get (D := (dC, dI)) (ci := 0) (v := .int p0_size) (C := RX0) (T := TX0) (N := 5) hx hb hts iX0 hown hK hP 0 rfl rfl 4 (by decide) (hts (.fieldLink RX0 26 "NetHouse$Balance" "size" "I") (by decide +kernel)) (fun _ h9 => h9) rfl dX0_keepRest_40 ?_
      refine lv_bipush (v := 16) hx hb dX0_keepRest_43 (by decide) ?_
      refine lv_imul hx hb dX0_keepRest_45 ?_
      refine lv_iload_n hx hb dX0_keepRest_46 rfl (lv_at hl 3 rfl) ?_
      refine lv_iadd hx hb dX0_keepRest_47 ?_
      refine lv_iload_n hx hb dX0_keepRest_48 rfl (lv_at hl 2 rfl) ?_
      refine lv_aload_n hx hb dX0_keepRest_49 rfl (lv_at hl 0 rfl) ?_
      refine va_get (D := (dC, dI)) (ci := 0) (v := .ref (ad_p0 1)) (C := RX0) (T := TX0) (N := 5) hx hb hts iX0 hown hK hP 0 rfl rfl 1 (by decide) (hts (.fieldLink RX0 15 "NetHouse$Balance" "cells" "[J") (by decide +kernel)) (fun _ h9 => h9) rfl dX0_keepRest_50 ?_
      refine lv_iload_n hx hb dX0_keepRest_53 rfl (lv_at hl 1 rfl) ?_
      refine lv_bipush (v := 32) hx hb dX0_keepRest_54 (by decide) ?_
      refine lv_imul hx hb dX0_keepRest_56 ?_
      refine lv_bipush (v := 16) hx hb dX0_keepRest_57 (by decide) ?_
      refine lv_iadd hx hb dX0_keepRest_59 ?_
      refine lv_iload_n hx hb dX0_keepRest_60 rfl (lv_at hl 3 rfl) ?_
      refine lv_iadd hx hb dX0_keepRest_61 ?_
      refine va_lald hx hb hK hP 1 1 rfl rfl hw.1 dX0_keepRest_62 ?_
      have hw := hw.2
      refine lv_l2i hx hb dX0_keepRest_63 rfl ?_
      refine lv_imul hx hb dX0_keepRest_64 ?_
      refine va_iast hx hb hK hP hD hS 2 0 rfl rfl hw.1 dX0_keepRest_65 (fun H locs hP hD hS => ?_)
      have hw := hw.2
      have hP : va_P (dC, dI) vwCl (wld_X0_keepRest cI cJ cZ h_p0 ad_p0 p0_rows p0_size p0_cells (upd p0_found ((p0_size * (16 : Int32)) + v3).toNatClampNeg (v2 * (p0_cells (((v1 * (32 : Int32)) + (16 : Int32)) + v3).toNatClampNeg).toInt32)) p0_out) H := hP
      have hD : va_D A (wld_X0_keepRest cI cJ cZ h_p0 ad_p0 p0_rows p0_size p0_cells (upd p0_found ((p0_size * (16 : Int32)) + v3).toNatClampNeg (v2 * (p0_cells (((v1 * (32 : Int32)) + (16 : Int32)) + v3).toNatClampNeg).toInt32)) p0_out) := hD
      obtain ⟨x9, ex9⟩ : ∃ y : Int32, y = v3 + (1 : Int32) := ⟨_, rfl⟩
      have hw := hw x9 ex9
      refine lv_iinc (v := x9) (lv' := [(3, .int x9), (0, .ref h_p0), (1, .int v1), (2, .int v2)]) hx hb dX0_keepRest_66 hl (k := 3) rfl (by rw [ex9]; rfl) (by decide) rfl (fun ls hl => ?_)
      refine lv_goto (tgt := 27) hx hb dX0_keepRest_69 (by decide) ?_
      exact ih _ _ hw _ _ _ hP hD hS (lv_sub hl [1, 2, 3, 0] rfl)
set_option maxHeartbeats 4000000 in
set_option maxRecDepth 100000 in
theorem c_X0_keepRest_L2 {p : Program} {l : Launch} {e : Env} {s : State} {m : MethodId} {args : Array Value} {below : List Frame} {meth : Method} {c : Code} {dC : Nat → ClassId} {dI : Nat → Nat → Nat} {A : Nat → Prop} {cI cJ cZ : ClassId} {h_p0 : Nat} {ad_p0 : Nat → Nat} {p0_rows : Int32} {p0_cells : Nat → Int64} {p0_out : Nat → Int32} {z_p0_size : Int32} {z_p0_found : Nat → Int32} {post : (Int32) → (Nat → Int32) → Prop} {K : (Int32) → (Int32) → (Nat → Int32) → Prop} (E0 : xEnv p s m args meth c cX0_keepRest none 4 RX0 wsX0_keepRest (dC, dI) cI cJ cZ A) (hk : ∀ (v1 : Int32) (p0_size : Int32) (p0_found : Nat → Int32) (H : Heap) (locs : List Loc) (ls : Array Slot), K v1 p0_size p0_found → va_P (dC, dI) vwCl (wld_X0_keepRest cI cJ cZ h_p0 ad_p0 p0_rows p0_size p0_cells p0_found p0_out) H → va_D A (wld_X0_keepRest cI cJ cZ h_p0 ad_p0 p0_rows p0_size p0_cells p0_found p0_out) → va_S A s.heap H locs → lv_has ls 4 [] → W p l e ({ frames := 1, cells := 0, slots := 0, locals := 24 }) s m args below meth c H locs 0 0 (MQ below (q_X0_keepRest dC dI cI cJ cZ h_p0 ad_p0 p0_rows z_p0_size p0_cells z_p0_found p0_out post A) args s 0 0 A) (F0 m 88 ls [])) : ∀ (n : Nat) (v1 : Int32) (p0_size : Int32) (p0_found : Nat → Int32), w_X0_keepRest_L2 p0_rows p0_cells p0_out post K n v1 p0_size p0_found → ∀ (H : Heap) (locs : List Loc) (ls : Array Slot), va_P (dC, dI) vwCl (wld_X0_keepRest cI cJ cZ h_p0 ad_p0 p0_rows p0_size p0_cells p0_found p0_out) H → va_D A (wld_X0_keepRest cI cJ cZ h_p0 ad_p0 p0_rows p0_size p0_cells p0_found p0_out) → va_S A s.heap H locs → lv_has ls 4 [(0, .ref h_p0), (1, .int v1)] → W p l e ({ frames := 1, cells := 0, slots := 0, locals := 24 }) s m args below meth c H locs 0 0 (MQ below (q_X0_keepRest dC dI cI cJ cZ h_p0 ad_p0 p0_rows z_p0_size p0_cells z_p0_found p0_out post A) args s 0 0 A) (F0 m 2 ls []) := by
  obtain ⟨hx, hb, hr, hml, hown, hts, hlocks, hK, hA, n1, n2⟩ := id E0
  have iX0 : ∀ w ∈ u_ws RX0 TX0 5, w ∈ wsX0_keepRest := fun w h => List.mem_cons_of_mem _ (List.mem_append_right _ h)
  intro n
  induction n with
  | zero => intro v1 p0_size p0_found hw; exact hw.elim
  | succ n ih =>
    intro v1 p0_size p0_found hw H locs ls hP hD hS hl
    have hw : w_X0_keepRest_L2b p0_rows p0_cells p0_out post K (w_X0_keepRest_L2 p0_rows p0_cells p0_out post K n) v1 p0_size p0_found := hw
    unfold w_X0_keepRest_L2b at hw
    refine lv_iload_n hx hb dX0_keepRest_2 rfl (lv_at hl 1 rfl) ?_
    refine lv_aload_n hx hb dX0_keepRest_3 rfl (lv_at hl 0 rfl) ?_
    refine va_get (D := (dC, dI)) (ci := 0) (v := .int p0_rows) (C := RX0) (T := TX0) (N := 5) hx hb hts iX0 hown hK hP 0 rfl rfl 3 (by decide) (hts (.fieldLink RX0 22 "NetHouse$Balance" "rows" "I") (by decide +kernel)) (fun _ h9 => h9) rfl dX0_keepRest_4 ?_
    refine lv_icmp_ge (tgt := 88) hx hb dX0_keepRest_7 (by decide) (fun c1 => ?_) (fun c2 => ?_)
    · have hw := hw.1 c1
      exact hk _ _ _ _ _ _ hw hP hD hS (lv_sub hl [] rfl)
    · have hw := hw.2 c2
      refine lv_aload_n hx hb dX0_keepRest_10 rfl (lv_at hl 0 rfl) ?_
      refine va_get (D := (dC, dI)) (ci := 0) (v := .ref (ad_p0 0)) (C := RX0) (T := TX0) (N := 5) hx hb hts iX0 hown hK hP 0 rfl rfl 0 (by decide) (hts (.fieldLink RX0 11 "NetHouse$Balance" "out" "[I") (by decide +kernel)) (fun _ h9 => h9) rfl dX0_keepRest_11 ?_
      refine lv_iload_n hx hb dX0_keepRest_14 rfl (lv_at hl 1 rfl) ?_
      refine va_iald hx hb hK hP 3 0 rfl rfl hw.1 dX0_keepRest_15 ?_
      have hw := hw.2
      refine lv_if_ne (tgt := 82) hx hb dX0_keepRest_16 (by decide) (fun c3 => ?_) (fun c4 => ?_)
      · have hw := hw.1 c3
        obtain ⟨x5, ex5⟩ : ∃ y : Int32, y = v1 + (1 : Int32) := ⟨_, rfl⟩
        have hw := hw x5 ex5
        refine lv_iinc (v := x5) (lv' := [(1, .int x5), (0, .ref h_p0)]) hx hb dX0_keepRest_82 hl (k := 1) rfl (by rw [ex5]; rfl) (by decide) rfl (fun ls hl => ?_)
        refine lv_goto (tgt := 2) hx hb dX0_keepRest_85 (by decide) ?_
        exact ih _ _ _ hw _ _ _ hP hD hS (lv_sub hl [1, 0] rfl)
      · have hw := hw.2 c4
        refine lv_aload_n hx hb dX0_keepRest_19 rfl (lv_at hl 0 rfl) ?_
        refine lv_iload_n hx hb dX0_keepRest_20 rfl (lv_at hl 1 rfl) ?_
        obtain ⟨hPc, hDc⟩ := x_sub (wc := (wld_X0_signOf cI cJ cZ h_p0 ad_p0 p0_rows p0_size p0_cells)) hP hD [0, 1] (n := 4) rfl rfl (by decide +kernel)
        refine x_calli (ws' := fun (u : Unit) => (wld_X0_keepRest cI cJ cZ h_p0 ad_p0 p0_rows p0_size p0_cells p0_found p0_out)) hP hD hS hA [0, 1] [2, 3] [2, 3, 0, 1] (n := 4) (k := 2) rfl (fun _ => rfl) rfl (by decide +kernel) (fun _ => rfl) (va_runV (As := [.int v1]) (rest := []) ⟨hx, hb, hml, hown, hts⟩ (c_X0_signOf (l := l) (dC := dC) (dI := dI) (cI := cI) (cJ := cJ) (cZ := cZ) (sz := H.size) (h_p0 := h_p0) (ad_p0 := ad_p0) (p0_rows := p0_rows) (p0_size := p0_size) (p0_cells := p0_cells) hw) (cwV 1 hts gX0_keepRest_X0_signOf rfl rfl rfl (by decide +kernel) ⟨Nat.le_of_ble_eq_true rfl, Nat.le_of_ble_eq_true rfl⟩) ⟨xPre_blind, va_recv hK hP (ci := 0) (q0 := 0) rfl rfl, xPre_at hK hPc hDc n1 n2⟩ rfl rfl hl.1 rfl (lv_room (Nat.le_of_ble_eq_true rfl)) dX0_keepRest_21 ⟨Nat.zero_le _, Nat.zero_le _⟩) (fun r6 u H locs hw hP hD hS => ?_)
        try dsimp only at hw
        have hP : va_P (dC, dI) vwCl (wld_X0_keepRest cI cJ cZ h_p0 ad_p0 p0_rows p0_size p0_cells p0_found p0_out) H := hP
        have hD : va_D A (wld_X0_keepRest cI cJ cZ h_p0 ad_p0 p0_rows p0_size p0_cells p0_found p0_out) := hD
        refine lv_istore_n (lv' := [(2, .int r6), (0, .ref h_p0), (1, .int v1)]) hx hb dX0_keepRest_24 rfl hl (by decide) rfl (fun ls hl => ?_)
        refine lv_iconst (v := 0) hx hb dX0_keepRest_25 (by decide) ?_
        refine lv_istore_n (lv' := [(3, .int (0 : Int32)), (2, .int r6), (0, .ref h_p0), (1, .int v1)]) hx hb dX0_keepRest_26 rfl hl (by decide) rfl (fun ls hl => ?_)
        obtain ⟨n10, hw⟩ := hw
        refine c_X0_keepRest_L27 (l := l) (z_p0_found := p0_found) E0 ?_ n10 _ _ hw _ _ _ hP hD hS (lv_sub hl [2, 3, 1, 0] rfl)
        · intro v11 s12 H locs ls hw hP hD hS hl
          have hP : va_P (dC, dI) vwCl (wld_X0_keepRest cI cJ cZ h_p0 ad_p0 p0_rows p0_size p0_cells s12 p0_out) H := hP
          have hD : va_D A (wld_X0_keepRest cI cJ cZ h_p0 ad_p0 p0_rows p0_size p0_cells s12 p0_out) := hD
          refine lv_aload_n hx hb dX0_keepRest_72 rfl (lv_at hl 0 rfl) ?_
          refine lv_dup hx hb dX0_keepRest_73 rfl ?_
          refine va_get (D := (dC, dI)) (ci := 0) (v := .int p0_size) (C := RX0) (T := TX0) (N := 5) hx hb hts iX0 hown hK hP 0 rfl rfl 4 (by decide) (hts (.fieldLink RX0 26 "NetHouse$Balance" "size" "I") (by decide +kernel)) (fun _ h9 => h9) rfl dX0_keepRest_74 ?_
          refine lv_iconst (v := 1) hx hb dX0_keepRest_77 (by decide) ?_
          refine lv_iadd hx hb dX0_keepRest_78 ?_
          refine lv_topi (fun x13 ex13 => ?_)
          have hw := hw x13 ex13
          refine va_put (D := (dC, dI)) (ci := 0) (v := .int x13) (ty := .int) (C := RX0) (T := TX0) (N := 5) hx hb hts iX0 tyX0 tyX0_ok nmX0 hown hK hP hD hS 0 rfl rfl 4 (by decide) (hts (.fieldLink RX0 26 "NetHouse$Balance" "size" "I") (by decide +kernel)) (fun _ h9 => h9) rfl (by decide +kernel) rfl rfl (Nat.le_of_ble_eq_true rfl) dX0_keepRest_79 (fun H locs hP hD hS => ?_)
          have hP : va_P (dC, dI) vwCl (wld_X0_keepRest cI cJ cZ h_p0 ad_p0 p0_rows x13 p0_cells s12 p0_out) H := hP
          have hD : va_D A (wld_X0_keepRest cI cJ cZ h_p0 ad_p0 p0_rows x13 p0_cells s12 p0_out) := hD
          obtain ⟨x14, ex14⟩ : ∃ y : Int32, y = v1 + (1 : Int32) := ⟨_, rfl⟩
          have hw := hw x14 ex14
          refine lv_iinc (v := x14) (lv' := [(1, .int x14), (0, .ref h_p0)]) hx hb dX0_keepRest_82 hl (k := 1) rfl (by rw [ex14]; rfl) (by decide) rfl (fun ls hl => ?_)
          refine lv_goto (tgt := 2) hx hb dX0_keepRest_85 (by decide) ?_
          exact ih _ _ _ hw _ _ _ hP hD hS (lv_sub hl [1, 0] rfl)
set_option maxHeartbeats 4000000 in
set_option maxRecDepth 100000 in
theorem c_X0_keepRest {l : Launch} {dC : Nat → ClassId} {dI : Nat → Nat → Nat} {sz : Nat} {cI cJ cZ : ClassId} {h_p0 : Nat} {ad_p0 : Nat → Nat} {p0_rows : Int32} {p0_size : Int32} {p0_cells : Nat → Int64} {p0_found : Nat → Int32} {p0_out : Nat → Int32}  {post : (Int32) → (Nat → Int32) → Prop} (hw : w_X0_keepRest p0_rows p0_size p0_cells p0_found p0_out post) : Met l yX0_keepRest wsX0_keepRest ({ frames := 1, cells := 0, slots := 0, locals := 24 }) (va_Pc [.ref h_p0] (xPre (dC, dI) cI cJ cZ (wld_X0_keepRest cI cJ cZ h_p0 ad_p0 p0_rows p0_size p0_cells p0_found p0_out) sz)) (q_X0_keepRest dC dI cI cJ cZ h_p0 ad_p0 p0_rows p0_size p0_cells p0_found p0_out post (va_A (wld_X0_keepRest cI cJ cZ h_p0 ad_p0 p0_rows p0_size p0_cells p0_found p0_out) sz)) 0 0 (va_A (wld_X0_keepRest cI cJ cZ h_p0 ad_p0 p0_rows p0_size p0_cells p0_found p0_out) sz) := by
  refine x_met (cc := cX0_keepRest) (maxL := 4) (ret := none) (own := RX0) (Qc := fun A => (q_X0_keepRest dC dI cI cJ cZ h_p0 ad_p0 p0_rows p0_size p0_cells p0_found p0_out post A)) (by decide) rfl rfl (Nat.le_of_ble_eq_true rfl) ?_
  intro p e s m args below meth c A ls E0 hP hD hS hl
  obtain ⟨hx, hb, hr, hml, hown, hts, hlocks, hK, hA, n1, n2⟩ := id E0
  have iX0 : ∀ w ∈ u_ws RX0 TX0 5, w ∈ wsX0_keepRest := fun w h => List.mem_cons_of_mem _ (List.mem_append_right _ h)
  have hS0 := hS
  have hl : lv_has ls 4 [(0, .ref h_p0)] := hl
  unfold w_X0_keepRest at hw
  obtain ⟨H, hH⟩ : ∃ H, H = s.heap := ⟨_, rfl⟩
  have hS : va_S A s.heap H [] := by rw [hH]; exact hS
  have hP : va_P (dC, dI) vwCl (wld_X0_keepRest cI cJ cZ h_p0 ad_p0 p0_rows p0_size p0_cells p0_found p0_out) H := by rw [hH]; exact hP
  suffices hG : W p l e ({ frames := 1, cells := 0, slots := 0, locals := 24 }) s m args below meth c H [] 0 0 (MQ below (q_X0_keepRest dC dI cI cJ cZ h_p0 ad_p0 p0_rows p0_size p0_cells p0_found p0_out post A) args s 0 0 A) (F0 m 0 ls []) by rw [hH] at hG; exact hG
  clear hH
  refine lv_iconst (v := 0) hx hb dX0_keepRest_0 (by decide) ?_
  refine lv_istore_n (lv' := [(1, .int (0 : Int32)), (0, .ref h_p0)]) hx hb dX0_keepRest_1 rfl hl (by decide) rfl (fun ls hl => ?_)
  obtain ⟨n15, hw⟩ := hw
  refine c_X0_keepRest_L2 (l := l) (z_p0_size := p0_size) (z_p0_found := p0_found) E0 ?_ n15 _ _ _ hw _ _ _ hP hD hS (lv_sub hl [1, 0] rfl)
  · intro v16 s17 s18 H locs ls hw hP hD hS hl
    have hP : va_P (dC, dI) vwCl (wld_X0_keepRest cI cJ cZ h_p0 ad_p0 p0_rows s17 p0_cells s18 p0_out) H := hP
    have hD : va_D A (wld_X0_keepRest cI cJ cZ h_p0 ad_p0 p0_rows s17 p0_cells s18 p0_out) := hD
    exact x_vret (w1 := fun (u : (Int32) × (Nat → Int32)) => (wld_X0_keepRest cI cJ cZ h_p0 ad_p0 p0_rows (u.1) p0_cells (u.2) p0_out)) hx hb hr hlocks (s17, s18) hw hP hD hS dX0_keepRest_88
abbrev wld_X9_crossing (cI cJ cZ : ClassId) : va_W := []
abbrev q_X9_crossing (dC : Nat → ClassId) (dI : Nat → Nat → Nat) (cI cJ cZ : ClassId) (post : Int32 → Prop) (A : Nat → Prop) : Array Value → State → Outcome → State → Prop := va_Qi (fun r (u : Unit) => post r ) (fun (u : Unit) t => xPost (dC, dI) A (wld_X9_crossing cI cJ cZ) t) A
def w_X9_crossing (a0 : Int32) (a1 : Int32) (post : Int32 → Prop) : Prop :=
  (post ((a0 * (16 : Int32)) + a1))
set_option maxHeartbeats 4000000 in
set_option maxRecDepth 100000 in
theorem c_X9_crossing {l : Launch} {dC : Nat → ClassId} {dI : Nat → Nat → Nat} {sz : Nat} {cI cJ cZ : ClassId} {a0 : Int32} {a1 : Int32} {post : Int32 → Prop} (hw : w_X9_crossing a0 a1 post) : Met l yX9_crossing wsX9_crossing ({ frames := 0, cells := 0, slots := 0, locals := 0 }) (va_Pc [.int a0, .int a1] (xPre (dC, dI) cI cJ cZ (wld_X9_crossing cI cJ cZ) sz)) (q_X9_crossing dC dI cI cJ cZ post (va_A (wld_X9_crossing cI cJ cZ) sz)) 0 0 (va_A (wld_X9_crossing cI cJ cZ) sz) := by
  refine x_met (cc := cX9_crossing) (maxL := 2) (ret := (some .int)) (own := RX9) (Qc := fun A => (q_X9_crossing dC dI cI cJ cZ post A)) (by decide) rfl rfl (Nat.le_of_ble_eq_true rfl) ?_
  intro p e s m args below meth c A ls E0 hP hD hS hl
  obtain ⟨hx, hb, hr, hml, hown, hts, hlocks, hK, hA, n1, n2⟩ := id E0
  have hS0 := hS
  have hl : lv_has ls 2 [(0, .int a0), (1, .int a1)] := hl
  unfold w_X9_crossing at hw
  obtain ⟨H, hH⟩ : ∃ H, H = s.heap := ⟨_, rfl⟩
  have hS : va_S A s.heap H [] := by rw [hH]; exact hS
  have hP : va_P (dC, dI) vwCl (wld_X9_crossing cI cJ cZ) H := by rw [hH]; exact hP
  suffices hG : W p l e ({ frames := 0, cells := 0, slots := 0, locals := 0 }) s m args below meth c H [] 0 0 (MQ below (q_X9_crossing dC dI cI cJ cZ post A) args s 0 0 A) (F0 m 0 ls []) by rw [hH] at hG; exact hG
  clear hH
  refine lv_iload_n hx hb dX9_crossing_0 rfl (lv_at hl 0 rfl) ?_
  refine lv_bipush (v := 16) hx hb dX9_crossing_1 (by decide) ?_
  refine lv_imul hx hb dX9_crossing_3 ?_
  refine lv_iload_n hx hb dX9_crossing_4 rfl (lv_at hl 1 rfl) ?_
  refine lv_iadd hx hb dX9_crossing_5 ?_
  exact x_iret (w1 := fun (u : Unit) => (wld_X9_crossing cI cJ cZ)) hx hb hr hlocks () hw hP hD hS dX9_crossing_6
abbrev wld_X5_change (cI cJ cZ : ClassId) (h_p0 : Nat) (ad_p0 : Nat → Nat) (p0_places : Int32) (p0_steps : Int32) (p0_coloured : Int32) (p0_puts : Nat → Int32) (p0_takes : Nat → Int32) : va_W := [(h_p0, .inr (5, [.ref (ad_p0 0), .ref (ad_p0 1), .ref (ad_p0 2), .ref (ad_p0 3), .ref (ad_p0 4), .ref (ad_p0 5), .ref (ad_p0 6), .ref (ad_p0 7), .ref (ad_p0 8), .ref (ad_p0 9), .ref (ad_p0 10), .int p0_places, .int p0_steps, .int p0_coloured])), ((ad_p0 3), .inl (cI, 256, .inl p0_puts)), ((ad_p0 2), .inl (cI, 256, .inl p0_takes))]
abbrev q_X5_change (dC : Nat → ClassId) (dI : Nat → Nat → Nat) (cI cJ cZ : ClassId) (h_p0 : Nat) (ad_p0 : Nat → Nat) (p0_places : Int32) (p0_steps : Int32) (p0_coloured : Int32) (p0_puts : Nat → Int32) (p0_takes : Nat → Int32) (post : Int32 → Prop) (A : Nat → Prop) : Array Value → State → Outcome → State → Prop := va_Qi (fun r (u : Unit) => post r ) (fun (u : Unit) t => xPost (dC, dI) A (wld_X5_change cI cJ cZ h_p0 ad_p0 p0_places p0_steps p0_coloured p0_puts p0_takes) t) A
def w_X5_change (p0_puts : Nat → Int32) (p0_takes : Nat → Int32) (a1 : Int32) (a2 : Int32) (post : Int32 → Prop) : Prop :=
  w_X9_crossing a1 a2 (fun r1 =>
  vp_in r1 256 ∧
  w_X9_crossing a1 a2 (fun r2 =>
  vp_in r2 256 ∧
  (post ((p0_puts r1.toNatClampNeg) - (p0_takes r2.toNatClampNeg)))))
set_option maxHeartbeats 4000000 in
set_option maxRecDepth 100000 in
theorem c_X5_change {l : Launch} {dC : Nat → ClassId} {dI : Nat → Nat → Nat} {sz : Nat} {cI cJ cZ : ClassId} {h_p0 : Nat} {ad_p0 : Nat → Nat} {p0_places : Int32} {p0_steps : Int32} {p0_coloured : Int32} {p0_puts : Nat → Int32} {p0_takes : Nat → Int32} {a1 : Int32} {a2 : Int32} {post : Int32 → Prop} (hw : w_X5_change p0_puts p0_takes a1 a2 post) : Met l yX5_change wsX5_change ({ frames := 1, cells := 0, slots := 0, locals := 21 }) (va_Pc [.ref h_p0, .int a1, .int a2] (xPre (dC, dI) cI cJ cZ (wld_X5_change cI cJ cZ h_p0 ad_p0 p0_places p0_steps p0_coloured p0_puts p0_takes) sz)) (q_X5_change dC dI cI cJ cZ h_p0 ad_p0 p0_places p0_steps p0_coloured p0_puts p0_takes post (va_A (wld_X5_change cI cJ cZ h_p0 ad_p0 p0_places p0_steps p0_coloured p0_puts p0_takes) sz)) 0 0 (va_A (wld_X5_change cI cJ cZ h_p0 ad_p0 p0_places p0_steps p0_coloured p0_puts p0_takes) sz) := by
  refine x_met (cc := cX5_change) (maxL := 3) (ret := (some .int)) (own := RX5) (Qc := fun A => (q_X5_change dC dI cI cJ cZ h_p0 ad_p0 p0_places p0_steps p0_coloured p0_puts p0_takes post A)) (by decide) rfl rfl (Nat.le_of_ble_eq_true rfl) ?_
  intro p e s m args below meth c A ls E0 hP hD hS hl
  obtain ⟨hx, hb, hr, hml, hown, hts, hlocks, hK, hA, n1, n2⟩ := id E0
  have iX5 : ∀ w ∈ u_ws RX5 TX5 14, w ∈ wsX5_change := fun w h => List.mem_cons_of_mem _ (List.mem_append_right _ h)
  have hS0 := hS
  have hl : lv_has ls 3 [(0, .ref h_p0), (1, .int a1), (2, .int a2)] := hl
  unfold w_X5_change at hw
  obtain ⟨H, hH⟩ : ∃ H, H = s.heap := ⟨_, rfl⟩
  have hS : va_S A s.heap H [] := by rw [hH]; exact hS
  have hP : va_P (dC, dI) vwCl (wld_X5_change cI cJ cZ h_p0 ad_p0 p0_places p0_steps p0_coloured p0_puts p0_takes) H := by rw [hH]; exact hP
  suffices hG : W p l e ({ frames := 1, cells := 0, slots := 0, locals := 21 }) s m args below meth c H [] 0 0 (MQ below (q_X5_change dC dI cI cJ cZ h_p0 ad_p0 p0_places p0_steps p0_coloured p0_puts p0_takes post A) args s 0 0 A) (F0 m 0 ls []) by rw [hH] at hG; exact hG
  clear hH
  refine lv_aload_n hx hb dX5_change_0 rfl (lv_at hl 0 rfl) ?_
  refine va_get (D := (dC, dI)) (ci := 5) (v := .ref (ad_p0 3)) (C := RX5) (T := TX5) (N := 14) hx hb hts iX5 hown hK hP 0 rfl rfl 3 (by decide) (hts (.fieldLink RX5 21 "NetHouse$Net" "puts" "[I") (by decide +kernel)) (fun _ h9 => h9) rfl dX5_change_1 ?_
  refine lv_iload_n hx hb dX5_change_4 rfl (lv_at hl 1 rfl) ?_
  refine lv_iload_n hx hb dX5_change_5 rfl (lv_at hl 2 rfl) ?_
  obtain ⟨hPc, hDc⟩ := x_sub (wc := (wld_X9_crossing cI cJ cZ )) hP hD [] (n := 3) rfl rfl (by decide +kernel)
  refine x_calli (ws' := fun (u : Unit) => (wld_X5_change cI cJ cZ h_p0 ad_p0 p0_places p0_steps p0_coloured p0_puts p0_takes)) hP hD hS hA [] [0, 1, 2] [0, 1, 2] (n := 3) (k := 0) rfl (fun _ => rfl) rfl (by decide +kernel) (fun _ => rfl) (va_runSN (As := [.int a1, .int a2]) (rest := [.ref (ad_p0 3)]) ⟨hx, hb, hml, hown, hts⟩ (c_X9_crossing (l := l) (dC := dC) (dI := dI) (cI := cI) (cJ := cJ) (cZ := cZ) (sz := H.size) hw) ⟨va_cnB (host := RX9) 2 hts gX5_change_X9_crossing_n55 rfl rfl rfl n1 (hts (.initialized RX9) (by decide +kernel)) (by decide +kernel) ⟨Nat.le_of_ble_eq_true rfl, Nat.le_of_ble_eq_true rfl⟩, hts (.static yX9_crossing) (by decide +kernel), trivial⟩ ⟨xPre_blind, xPre_at hK hPc hDc n1 n2⟩ rfl rfl hl.1 rfl (lv_room (Nat.le_of_ble_eq_true rfl)) dX5_change_6 ⟨Nat.zero_le _, Nat.zero_le _⟩) (fun r1 u H locs hw hP hD hS => ?_)
  try dsimp only at hw
  have hP : va_P (dC, dI) vwCl (wld_X5_change cI cJ cZ h_p0 ad_p0 p0_places p0_steps p0_coloured p0_puts p0_takes) H := hP
  have hD : va_D A (wld_X5_change cI cJ cZ h_p0 ad_p0 p0_places p0_steps p0_coloured p0_puts p0_takes) := hD
  refine va_iald hx hb hK hP 1 0 rfl rfl hw.1 dX5_change_9 ?_
  have hw := hw.2
  refine lv_aload_n hx hb dX5_change_10 rfl (lv_at hl 0 rfl) ?_
  refine va_get (D := (dC, dI)) (ci := 5) (v := .ref (ad_p0 2)) (C := RX5) (T := TX5) (N := 14) hx hb hts iX5 hown hK hP 0 rfl rfl 2 (by decide) (hts (.fieldLink RX5 18 "NetHouse$Net" "takes" "[I") (by decide +kernel)) (fun _ h9 => h9) rfl dX5_change_11 ?_
  refine lv_iload_n hx hb dX5_change_14 rfl (lv_at hl 1 rfl) ?_
  refine lv_iload_n hx hb dX5_change_15 rfl (lv_at hl 2 rfl) ?_
  obtain ⟨hPc, hDc⟩ := x_sub (wc := (wld_X9_crossing cI cJ cZ )) hP hD [] (n := 3) rfl rfl (by decide +kernel)
  refine x_calli (ws' := fun (u : Unit) => (wld_X5_change cI cJ cZ h_p0 ad_p0 p0_places p0_steps p0_coloured p0_puts p0_takes)) hP hD hS hA [] [0, 1, 2] [0, 1, 2] (n := 3) (k := 0) rfl (fun _ => rfl) rfl (by decide +kernel) (fun _ => rfl) (va_runSN (As := [.int a1, .int a2]) (rest := [.ref (ad_p0 2), .int (p0_puts r1.toNatClampNeg)]) ⟨hx, hb, hml, hown, hts⟩ (c_X9_crossing (l := l) (dC := dC) (dI := dI) (cI := cI) (cJ := cJ) (cZ := cZ) (sz := H.size) hw) ⟨va_cnB (host := RX9) 2 hts gX5_change_X9_crossing_n55 rfl rfl rfl n1 (hts (.initialized RX9) (by decide +kernel)) (by decide +kernel) ⟨Nat.le_of_ble_eq_true rfl, Nat.le_of_ble_eq_true rfl⟩, hts (.static yX9_crossing) (by decide +kernel), trivial⟩ ⟨xPre_blind, xPre_at hK hPc hDc n1 n2⟩ rfl rfl hl.1 rfl (lv_room (Nat.le_of_ble_eq_true rfl)) dX5_change_16 ⟨Nat.zero_le _, Nat.zero_le _⟩) (fun r2 u H locs hw hP hD hS => ?_)
  try dsimp only at hw
  have hP : va_P (dC, dI) vwCl (wld_X5_change cI cJ cZ h_p0 ad_p0 p0_places p0_steps p0_coloured p0_puts p0_takes) H := hP
  have hD : va_D A (wld_X5_change cI cJ cZ h_p0 ad_p0 p0_places p0_steps p0_coloured p0_puts p0_takes) := hD
  refine va_iald hx hb hK hP 2 0 rfl rfl hw.1 dX5_change_19 ?_
  have hw := hw.2
  refine lv_isub hx hb dX5_change_20 ?_
  exact x_iret (w1 := fun (u : Unit) => (wld_X5_change cI cJ cZ h_p0 ad_p0 p0_places p0_steps p0_coloured p0_puts p0_takes)) hx hb hr hlocks () hw hP hD hS dX5_change_21
abbrev wld_X0_solve (cI cJ cZ : ClassId) (h_p0 : Nat) (h_p1 : Nat) (ad_p0 : Nat → Nat) (ad_p1 : Nat → Nat) (p0_rows : Int32) (p0_size : Int32) (p1_places : Int32) (p1_steps : Int32) (p1_coloured : Int32) (p0_cells : Nat → Int64) (p0_found : Nat → Int32) (p0_out : Nat → Int32) (p1_puts : Nat → Int32) (p1_takes : Nat → Int32) : va_W := [(h_p0, .inr (0, [.ref (ad_p0 0), .ref (ad_p0 1), .ref (ad_p0 2), .int p0_rows, .int p0_size])), ((ad_p0 1), .inl (cJ, 512, .inr (.inl p0_cells))), ((ad_p0 2), .inl (cI, 256, .inl p0_found)), ((ad_p0 0), .inl (cI, 16, .inl p0_out)), (h_p1, .inr (5, [.ref (ad_p1 0), .ref (ad_p1 1), .ref (ad_p1 2), .ref (ad_p1 3), .ref (ad_p1 4), .ref (ad_p1 5), .ref (ad_p1 6), .ref (ad_p1 7), .ref (ad_p1 8), .ref (ad_p1 9), .ref (ad_p1 10), .int p1_places, .int p1_steps, .int p1_coloured])), ((ad_p1 3), .inl (cI, 256, .inl p1_puts)), ((ad_p1 2), .inl (cI, 256, .inl p1_takes))]
abbrev q_X0_solve (dC : Nat → ClassId) (dI : Nat → Nat → Nat) (cI cJ cZ : ClassId) (h_p0 : Nat) (h_p1 : Nat) (ad_p0 : Nat → Nat) (ad_p1 : Nat → Nat) (p0_rows : Int32) (p0_size : Int32) (p1_places : Int32) (p1_steps : Int32) (p1_coloured : Int32) (p0_cells : Nat → Int64) (p0_found : Nat → Int32) (p0_out : Nat → Int32) (p1_puts : Nat → Int32) (p1_takes : Nat → Int32) (post : Int32 → (Int32) → (Int32) → (Nat → Int64) → (Nat → Int32) → (Nat → Int32) → Prop) (A : Nat → Prop) : Array Value → State → Outcome → State → Prop := va_Qi (fun r (u : (Int32) × (Int32) × (Nat → Int64) × (Nat → Int32) × (Nat → Int32)) => post r (u.1) (u.2.1) (u.2.2.1) (u.2.2.2.1) (u.2.2.2.2)) (fun (u : (Int32) × (Int32) × (Nat → Int64) × (Nat → Int32) × (Nat → Int32)) t => xPost (dC, dI) A (wld_X0_solve cI cJ cZ h_p0 h_p1 ad_p0 ad_p1 (u.1) (u.2.1) p1_places p1_steps p1_coloured (u.2.2.1) (u.2.2.2.1) (u.2.2.2.2) p1_puts p1_takes) t) A
def w_X0_solve_L71b (v2 : Int32) (v3 : Int32) (v4 : Int32) (p0_rows : Int32) (p0_size : Int32) (p1_places : Int32) (p1_steps : Int32) (p0_found : Nat → Int32) (p0_out : Nat → Int32) (p1_puts : Nat → Int32) (p1_takes : Nat → Int32) (post : Int32 → (Int32) → (Int32) → (Nat → Int64) → (Nat → Int32) → (Nat → Int32) → Prop) (K : (Int32) → (Nat → Int64) → Prop) (rec : (Int32) → (Nat → Int64) → Prop) (v5 : Int32) (p0_cells : Nat → Int64) : Prop :=
    (v3 ≤ v5 →
      K v5 p0_cells) ∧
    (¬ v3 ≤ v5 →
      (v2 = 0 →
        w_X5_change p1_puts p1_takes v4 v5 (fun r13 =>
        vp_in ((v4 * (32 : Int32)) + v5) 512 ∧
        ∀ x14 : Int32, x14 = v5 + (1 : Int32) →
        rec x14 (vp_updL p0_cells ((v4 * (32 : Int32)) + v5).toNatClampNeg r13.toInt64))) ∧
      (¬ v2 = 0 →
        w_X5_change p1_puts p1_takes v5 v4 (fun r15 =>
        vp_in ((v4 * (32 : Int32)) + v5) 512 ∧
        ∀ x16 : Int32, x16 = v5 + (1 : Int32) →
        rec x16 (vp_updL p0_cells ((v4 * (32 : Int32)) + v5).toNatClampNeg r15.toInt64))))
def w_X0_solve_L71 (v2 : Int32) (v3 : Int32) (v4 : Int32) (p0_rows : Int32) (p0_size : Int32) (p1_places : Int32) (p1_steps : Int32) (p0_found : Nat → Int32) (p0_out : Nat → Int32) (p1_puts : Nat → Int32) (p1_takes : Nat → Int32) (post : Int32 → (Int32) → (Int32) → (Nat → Int64) → (Nat → Int32) → (Nat → Int32) → Prop) (K : (Int32) → (Nat → Int64) → Prop) : Nat → (Int32) → (Nat → Int64) → Prop
  | 0, _, _ => False
  | n + 1, v5, p0_cells => w_X0_solve_L71b v2 v3 v4 p0_rows p0_size p1_places p1_steps p0_found p0_out p1_puts p1_takes post K (w_X0_solve_L71 v2 v3 v4 p0_rows p0_size p1_places p1_steps p0_found p0_out p1_puts p1_takes post K n) v5 p0_cells
def w_X0_solve_L59b (v2 : Int32) (v3 : Int32) (p0_rows : Int32) (p0_size : Int32) (p1_places : Int32) (p1_steps : Int32) (p0_found : Nat → Int32) (p0_out : Nat → Int32) (p1_puts : Nat → Int32) (p1_takes : Nat → Int32) (post : Int32 → (Int32) → (Int32) → (Nat → Int64) → (Nat → Int32) → (Nat → Int32) → Prop) (K : (Int32) → (Nat → Int64) → Prop) (rec : (Int32) → (Nat → Int64) → Prop) (v4 : Int32) (p0_cells : Nat → Int64) : Prop :=
    (p0_rows ≤ v4 →
      K v4 p0_cells) ∧
    (¬ p0_rows ≤ v4 →
      ∃ n : Nat, w_X0_solve_L71 v2 v3 v4 p0_rows p0_size p1_places p1_steps p0_found p0_out p1_puts p1_takes post (fun v18 s19 =>
          vp_in (((v4 * (32 : Int32)) + (16 : Int32)) + v4) 512 ∧
          ∀ x20 : Int32, x20 = v4 + (1 : Int32) →
          rec x20 (vp_updL s19 (((v4 * (32 : Int32)) + (16 : Int32)) + v4).toNatClampNeg (1 : Int64))) n (0 : Int32) p0_cells)
def w_X0_solve_L59 (v2 : Int32) (v3 : Int32) (p0_rows : Int32) (p0_size : Int32) (p1_places : Int32) (p1_steps : Int32) (p0_found : Nat → Int32) (p0_out : Nat → Int32) (p1_puts : Nat → Int32) (p1_takes : Nat → Int32) (post : Int32 → (Int32) → (Int32) → (Nat → Int64) → (Nat → Int32) → (Nat → Int32) → Prop) (K : (Int32) → (Nat → Int64) → Prop) : Nat → (Int32) → (Nat → Int64) → Prop
  | 0, _, _ => False
  | n + 1, v4, p0_cells => w_X0_solve_L59b v2 v3 p0_rows p0_size p1_places p1_steps p0_found p0_out p1_puts p1_takes post K (w_X0_solve_L59 v2 v3 p0_rows p0_size p1_places p1_steps p0_found p0_out p1_puts p1_takes post K n) v4 p0_cells
def w_X0_solve_L147b (v3 : Int32) (p0_rows : Int32) (p0_size : Int32) (p1_places : Int32) (p1_steps : Int32) (p0_found : Nat → Int32) (p1_puts : Nat → Int32) (p1_takes : Nat → Int32) (post : Int32 → (Int32) → (Int32) → (Nat → Int64) → (Nat → Int32) → (Nat → Int32) → Prop) (K : (Int32) → (Nat → Int64) → (Nat → Int32) → Prop) (rec : (Int32) → (Nat → Int64) → (Nat → Int32) → Prop) (v4 : Int32) (p0_cells : Nat → Int64) (p0_out : Nat → Int32) : Prop :=
    (v3 ≤ v4 →
      K v4 p0_cells p0_out) ∧
    (¬ v3 ≤ v4 →
      w_X0_clearColumn p0_rows p0_cells p0_out v4 (fun r26 y27 y28 =>
      (¬ r26 = 0 →
        ∀ x31 : Int32, x31 = v4 + (1 : Int32) →
        rec x31 y27 y28) ∧
      (r26 = 0 →
        (post (0 : Int32) p0_rows p0_size y27 p0_found y28))))
def w_X0_solve_L147 (v3 : Int32) (p0_rows : Int32) (p0_size : Int32) (p1_places : Int32) (p1_steps : Int32) (p0_found : Nat → Int32) (p1_puts : Nat → Int32) (p1_takes : Nat → Int32) (post : Int32 → (Int32) → (Int32) → (Nat → Int64) → (Nat → Int32) → (Nat → Int32) → Prop) (K : (Int32) → (Nat → Int64) → (Nat → Int32) → Prop) : Nat → (Int32) → (Nat → Int64) → (Nat → Int32) → Prop
  | 0, _, _, _ => False
  | n + 1, v4, p0_cells, p0_out => w_X0_solve_L147b v3 p0_rows p0_size p1_places p1_steps p0_found p1_puts p1_takes post K (w_X0_solve_L147 v3 p0_rows p0_size p1_places p1_steps p0_found p1_puts p1_takes post K n) v4 p0_cells p0_out
def w_X0_solve (p0_rows : Int32) (p0_size : Int32) (p1_places : Int32) (p1_steps : Int32) (p0_cells : Nat → Int64) (p0_found : Nat → Int32) (p0_out : Nat → Int32) (p1_puts : Nat → Int32) (p1_takes : Nat → Int32) (a2 : Int32) (post : Int32 → (Int32) → (Int32) → (Nat → Int64) → (Nat → Int32) → (Nat → Int32) → Prop) : Prop :=
  (a2 = 0 →
    (a2 = 0 →
      w_J7_fill_53178 16 p0_out (0 : Int32) (fun y5 =>
      w_J7_fill_d0a16 512 p0_cells (0 : Int64) (fun y6 =>
      ∃ n : Nat, w_X0_solve_L59 a2 p1_places p1_steps (0 : Int32) p1_places p1_steps p0_found y5 p1_puts p1_takes post (fun v22 s23 =>
          ∃ n : Nat, w_X0_solve_L147 p1_places p1_steps (0 : Int32) p1_places p1_steps p0_found p1_puts p1_takes post (fun v33 s34 s35 =>
              w_X0_keepRest p1_steps (0 : Int32) s34 p0_found s35 (fun y36 y37 =>
              (post (1 : Int32) p1_steps y36 s34 y37 s35))) n (0 : Int32) s23 y5) n (0 : Int32) y6))) ∧
    (¬ a2 = 0 →
      w_J7_fill_53178 16 p0_out (0 : Int32) (fun y38 =>
      w_J7_fill_d0a16 512 p0_cells (0 : Int64) (fun y39 =>
      ∃ n : Nat, w_X0_solve_L59 a2 p1_steps p1_steps (0 : Int32) p1_places p1_steps p0_found y38 p1_puts p1_takes post (fun v41 s42 =>
          ∃ n : Nat, w_X0_solve_L147 p1_steps p1_steps (0 : Int32) p1_places p1_steps p0_found p1_puts p1_takes post (fun v44 s45 s46 =>
              w_X0_keepRest p1_steps (0 : Int32) s45 p0_found s46 (fun y47 y48 =>
              (post (1 : Int32) p1_steps y47 s45 y48 s46))) n (0 : Int32) s42 y38) n (0 : Int32) y39)))) ∧
  (¬ a2 = 0 →
    (a2 = 0 →
      w_J7_fill_53178 16 p0_out (0 : Int32) (fun y51 =>
      w_J7_fill_d0a16 512 p0_cells (0 : Int64) (fun y52 =>
      ∃ n : Nat, w_X0_solve_L59 a2 p1_places p1_places (0 : Int32) p1_places p1_steps p0_found y51 p1_puts p1_takes post (fun v54 s55 =>
          ∃ n : Nat, w_X0_solve_L147 p1_places p1_places (0 : Int32) p1_places p1_steps p0_found p1_puts p1_takes post (fun v57 s58 s59 =>
              w_X0_keepRest p1_places (0 : Int32) s58 p0_found s59 (fun y60 y61 =>
              (post (1 : Int32) p1_places y60 s58 y61 s59))) n (0 : Int32) s55 y51) n (0 : Int32) y52))) ∧
    (¬ a2 = 0 →
      w_J7_fill_53178 16 p0_out (0 : Int32) (fun y62 =>
      w_J7_fill_d0a16 512 p0_cells (0 : Int64) (fun y63 =>
      ∃ n : Nat, w_X0_solve_L59 a2 p1_steps p1_places (0 : Int32) p1_places p1_steps p0_found y62 p1_puts p1_takes post (fun v65 s66 =>
          ∃ n : Nat, w_X0_solve_L147 p1_steps p1_places (0 : Int32) p1_places p1_steps p0_found p1_puts p1_takes post (fun v68 s69 s70 =>
              w_X0_keepRest p1_places (0 : Int32) s69 p0_found s70 (fun y71 y72 =>
              (post (1 : Int32) p1_places y71 s69 y72 s70))) n (0 : Int32) s66 y62) n (0 : Int32) y63))))
set_option maxHeartbeats 4000000 in
set_option maxRecDepth 100000 in
theorem c_X0_solve_L71 {p : Program} {l : Launch} {e : Env} {s : State} {m : MethodId} {args : Array Value} {below : List Frame} {meth : Method} {c : Code} {dC : Nat → ClassId} {dI : Nat → Nat → Nat} {A : Nat → Prop} {cI cJ cZ : ClassId} {h_p0 : Nat} {h_p1 : Nat} {ad_p0 : Nat → Nat} {ad_p1 : Nat → Nat} {p0_rows : Int32} {p0_size : Int32} {p1_places : Int32} {p1_steps : Int32} {p1_coloured : Int32} {p0_found : Nat → Int32} {p0_out : Nat → Int32} {p1_puts : Nat → Int32} {p1_takes : Nat → Int32} {v2 : Int32} {v3 : Int32} {v4 : Int32} {z_p0_cells : Nat → Int64} {post : Int32 → (Int32) → (Int32) → (Nat → Int64) → (Nat → Int32) → (Nat → Int32) → Prop} {K : (Int32) → (Nat → Int64) → Prop} (E0 : xEnv p s m args meth c cX0_solve (some .boolean) 6 RX0 wsX0_solve (dC, dI) cI cJ cZ A) (hk : ∀ (v5 : Int32) (p0_cells : Nat → Int64) (H : Heap) (locs : List Loc) (ls : Array Slot), K v5 p0_cells → va_P (dC, dI) vwCl (wld_X0_solve cI cJ cZ h_p0 h_p1 ad_p0 ad_p1 p0_rows p0_size p1_places p1_steps p1_coloured p0_cells p0_found p0_out p1_puts p1_takes) H → va_D A (wld_X0_solve cI cJ cZ h_p0 h_p1 ad_p0 ad_p1 p0_rows p0_size p1_places p1_steps p1_coloured p0_cells p0_found p0_out p1_puts p1_takes) → va_S A s.heap H locs → lv_has ls 6 [(0, .ref h_p0), (1, .ref h_p1), (2, .int v2), (3, .int v3), (4, .int v4)] → W p l e ({ frames := 3, cells := 0, slots := 0, locals := 85 }) s m args below meth c H locs 0 0 (MQ below (q_X0_solve dC dI cI cJ cZ h_p0 h_p1 ad_p0 ad_p1 p0_rows p0_size p1_places p1_steps p1_coloured z_p0_cells p0_found p0_out p1_puts p1_takes post A) args s 0 0 A) (F0 m 121 ls [])) : ∀ (n : Nat) (v5 : Int32) (p0_cells : Nat → Int64), w_X0_solve_L71 v2 v3 v4 p0_rows p0_size p1_places p1_steps p0_found p0_out p1_puts p1_takes post K n v5 p0_cells → ∀ (H : Heap) (locs : List Loc) (ls : Array Slot), va_P (dC, dI) vwCl (wld_X0_solve cI cJ cZ h_p0 h_p1 ad_p0 ad_p1 p0_rows p0_size p1_places p1_steps p1_coloured p0_cells p0_found p0_out p1_puts p1_takes) H → va_D A (wld_X0_solve cI cJ cZ h_p0 h_p1 ad_p0 ad_p1 p0_rows p0_size p1_places p1_steps p1_coloured p0_cells p0_found p0_out p1_puts p1_takes) → va_S A s.heap H locs → lv_has ls 6 [(0, .ref h_p0), (1, .ref h_p1), (2, .int v2), (3, .int v3), (4, .int v4), (5, .int v5)] → W p l e ({ frames := 3, cells := 0, slots := 0, locals := 85 }) s m args below meth c H locs 0 0 (MQ below (q_X0_solve dC dI cI cJ cZ h_p0 h_p1 ad_p0 ad_p1 p0_rows p0_size p1_places p1_steps p1_coloured z_p0_cells p0_found p0_out p1_puts p1_takes post A) args s 0 0 A) (F0 m 71 ls []) := by
  obtain ⟨hx, hb, hr, hml, hown, hts, hlocks, hK, hA, n1, n2⟩ := id E0
  have iX0 : ∀ w ∈ u_ws RX0 TX0 5, w ∈ wsX0_solve := fun w h => List.mem_cons_of_mem _ (List.mem_append_left _ (List.mem_append_right _ h))
  have iX5 : ∀ w ∈ u_ws RX5 TX5 14, w ∈ wsX0_solve := fun w h => List.mem_cons_of_mem _ (List.mem_append_right _ h)
  intro n
  induction n with
  | zero => intro v5 p0_cells hw; exact hw.elim
  | succ n ih =>
    intro v5 p0_cells hw H locs ls hP hD hS hl
    have hw : w_X0_solve_L71b v2 v3 v4 p0_rows p0_size p1_places p1_steps p0_found p0_out p1_puts p1_takes post K (w_X0_solve_L71 v2 v3 v4 p0_rows p0_size p1_places p1_steps p0_found p0_out p1_puts p1_takes post K n) v5 p0_cells := hw
    unfold w_X0_solve_L71b at hw
    refine lv_iload hx hb dX0_solve_71 (lv_at hl 5 rfl) ?_
    refine lv_iload_n hx hb dX0_solve_73 rfl (lv_at hl 3 rfl) ?_
    refine lv_icmp_ge (tgt := 121) hx hb dX0_solve_74 (by decide) (fun c9 => ?_) (fun c10 => ?_)
    · have hw := hw.1 c9
      exact hk _ _ _ _ _ hw hP hD hS (lv_sub hl [0, 1, 2, 3, 4] rfl)
    · have hw := hw.2 c10
      refine lv_aload_n hx hb dX0_solve_77 rfl (lv_at hl 0 rfl) ?_
      refine va_get (D := (dC, dI)) (ci := 0) (v := .ref (ad_p0 1)) (C := RX0) (T := TX0) (N := 5) hx hb hts iX0 hown hK hP 0 rfl rfl 1 (by decide) (hts (.fieldLink RX0 15 "NetHouse$Balance" "cells" "[J") (by decide +kernel)) (fun _ h9 => h9) rfl dX0_solve_78 ?_
      refine lv_iload hx hb dX0_solve_81 (lv_at hl 4 rfl) ?_
      refine lv_bipush (v := 32) hx hb dX0_solve_83 (by decide) ?_
      refine lv_imul hx hb dX0_solve_85 ?_
      refine lv_iload hx hb dX0_solve_86 (lv_at hl 5 rfl) ?_
      refine lv_iadd hx hb dX0_solve_88 ?_
      refine lv_iload_n hx hb dX0_solve_89 rfl (lv_at hl 2 rfl) ?_
      refine lv_if_eq (tgt := 105) hx hb dX0_solve_90 (by decide) (fun c11 => ?_) (fun c12 => ?_)
      · have hw := hw.1 c11
        refine lv_aload_n hx hb dX0_solve_105 rfl (lv_at hl 1 rfl) ?_
        refine lv_iload hx hb dX0_solve_106 (lv_at hl 4 rfl) ?_
        refine lv_iload hx hb dX0_solve_108 (lv_at hl 5 rfl) ?_
        obtain ⟨hPc, hDc⟩ := x_sub (wc := (wld_X5_change cI cJ cZ h_p1 ad_p1 p1_places p1_steps p1_coloured p1_puts p1_takes)) hP hD [4, 5, 6] (n := 7) rfl rfl (by decide +kernel)
        refine x_calli (ws' := fun (u : Unit) => (wld_X0_solve cI cJ cZ h_p0 h_p1 ad_p0 ad_p1 p0_rows p0_size p1_places p1_steps p1_coloured p0_cells p0_found p0_out p1_puts p1_takes)) hP hD hS hA [4, 5, 6] [0, 1, 2, 3] [0, 1, 2, 3, 4, 5, 6] (n := 7) (k := 3) rfl (fun _ => rfl) rfl (by decide +kernel) (fun _ => rfl) (va_runV (As := [.int v4, .int v5]) (rest := [.int ((v4 * (32 : Int32)) + v5), .ref (ad_p0 1)]) ⟨hx, hb, hml, hown, hts⟩ (c_X5_change (l := l) (dC := dC) (dI := dI) (cI := cI) (cJ := cJ) (cZ := cZ) (sz := H.size) (h_p0 := h_p1) (ad_p0 := ad_p1) (p0_places := p1_places) (p0_steps := p1_steps) (p0_coloured := p1_coloured) (p0_puts := p1_puts) (p0_takes := p1_takes) hw) (cwV 2 hts gX0_solve_X5_change rfl rfl rfl (by decide +kernel) ⟨Nat.le_of_ble_eq_true rfl, Nat.le_of_ble_eq_true rfl⟩) ⟨xPre_blind, va_recv hK hP (ci := 5) (q0 := 4) rfl rfl, xPre_at hK hPc hDc n1 n2⟩ rfl rfl hl.1 rfl (lv_room (Nat.le_of_ble_eq_true rfl)) dX0_solve_110 ⟨Nat.zero_le _, Nat.zero_le _⟩) (fun r13 u H locs hw hP hD hS => ?_)
        try dsimp only at hw
        have hP : va_P (dC, dI) vwCl (wld_X0_solve cI cJ cZ h_p0 h_p1 ad_p0 ad_p1 p0_rows p0_size p1_places p1_steps p1_coloured p0_cells p0_found p0_out p1_puts p1_takes) H := hP
        have hD : va_D A (wld_X0_solve cI cJ cZ h_p0 h_p1 ad_p0 ad_p1 p0_rows p0_size p1_places p1_steps p1_coloured p0_cells p0_found p0_out p1_puts p1_takes) := hD
        refine lv_i2l hx hb dX0_solve_113 rfl ?_
        refine va_last hx hb hK hP hD hS 1 1 rfl rfl hw.1 dX0_solve_114 (fun H locs hP hD hS => ?_)
        have hw := hw.2
        have hP : va_P (dC, dI) vwCl (wld_X0_solve cI cJ cZ h_p0 h_p1 ad_p0 ad_p1 p0_rows p0_size p1_places p1_steps p1_coloured (vp_updL p0_cells ((v4 * (32 : Int32)) + v5).toNatClampNeg r13.toInt64) p0_found p0_out p1_puts p1_takes) H := hP
        have hD : va_D A (wld_X0_solve cI cJ cZ h_p0 h_p1 ad_p0 ad_p1 p0_rows p0_size p1_places p1_steps p1_coloured (vp_updL p0_cells ((v4 * (32 : Int32)) + v5).toNatClampNeg r13.toInt64) p0_found p0_out p1_puts p1_takes) := hD
        obtain ⟨x14, ex14⟩ : ∃ y : Int32, y = v5 + (1 : Int32) := ⟨_, rfl⟩
        have hw := hw x14 ex14
        refine lv_iinc (v := x14) (lv' := [(5, .int x14), (0, .ref h_p0), (1, .ref h_p1), (2, .int v2), (3, .int v3), (4, .int v4)]) hx hb dX0_solve_115 hl (k := 5) rfl (by rw [ex14]; rfl) (by decide) rfl (fun ls hl => ?_)
        refine lv_goto (tgt := 71) hx hb dX0_solve_118 (by decide) ?_
        exact ih _ _ hw _ _ _ hP hD hS (lv_sub hl [1, 2, 3, 4, 5, 0] rfl)
      · have hw := hw.2 c12
        refine lv_aload_n hx hb dX0_solve_93 rfl (lv_at hl 1 rfl) ?_
        refine lv_iload hx hb dX0_solve_94 (lv_at hl 5 rfl) ?_
        refine lv_iload hx hb dX0_solve_96 (lv_at hl 4 rfl) ?_
        obtain ⟨hPc, hDc⟩ := x_sub (wc := (wld_X5_change cI cJ cZ h_p1 ad_p1 p1_places p1_steps p1_coloured p1_puts p1_takes)) hP hD [4, 5, 6] (n := 7) rfl rfl (by decide +kernel)
        refine x_calli (ws' := fun (u : Unit) => (wld_X0_solve cI cJ cZ h_p0 h_p1 ad_p0 ad_p1 p0_rows p0_size p1_places p1_steps p1_coloured p0_cells p0_found p0_out p1_puts p1_takes)) hP hD hS hA [4, 5, 6] [0, 1, 2, 3] [0, 1, 2, 3, 4, 5, 6] (n := 7) (k := 3) rfl (fun _ => rfl) rfl (by decide +kernel) (fun _ => rfl) (va_runV (As := [.int v5, .int v4]) (rest := [.int ((v4 * (32 : Int32)) + v5), .ref (ad_p0 1)]) ⟨hx, hb, hml, hown, hts⟩ (c_X5_change (l := l) (dC := dC) (dI := dI) (cI := cI) (cJ := cJ) (cZ := cZ) (sz := H.size) (h_p0 := h_p1) (ad_p0 := ad_p1) (p0_places := p1_places) (p0_steps := p1_steps) (p0_coloured := p1_coloured) (p0_puts := p1_puts) (p0_takes := p1_takes) hw) (cwV 2 hts gX0_solve_X5_change rfl rfl rfl (by decide +kernel) ⟨Nat.le_of_ble_eq_true rfl, Nat.le_of_ble_eq_true rfl⟩) ⟨xPre_blind, va_recv hK hP (ci := 5) (q0 := 4) rfl rfl, xPre_at hK hPc hDc n1 n2⟩ rfl rfl hl.1 rfl (lv_room (Nat.le_of_ble_eq_true rfl)) dX0_solve_98 ⟨Nat.zero_le _, Nat.zero_le _⟩) (fun r15 u H locs hw hP hD hS => ?_)
        try dsimp only at hw
        have hP : va_P (dC, dI) vwCl (wld_X0_solve cI cJ cZ h_p0 h_p1 ad_p0 ad_p1 p0_rows p0_size p1_places p1_steps p1_coloured p0_cells p0_found p0_out p1_puts p1_takes) H := hP
        have hD : va_D A (wld_X0_solve cI cJ cZ h_p0 h_p1 ad_p0 ad_p1 p0_rows p0_size p1_places p1_steps p1_coloured p0_cells p0_found p0_out p1_puts p1_takes) := hD
        refine lv_i2l hx hb dX0_solve_101 rfl ?_
        refine lv_goto (tgt := 114) hx hb dX0_solve_102 (by decide) ?_
        refine va_last hx hb hK hP hD hS 1 1 rfl rfl hw.1 dX0_solve_114 (fun H locs hP hD hS => ?_)
        have hw := hw.2
        have hP : va_P (dC, dI) vwCl (wld_X0_solve cI cJ cZ h_p0 h_p1 ad_p0 ad_p1 p0_rows p0_size p1_places p1_steps p1_coloured (vp_updL p0_cells ((v4 * (32 : Int32)) + v5).toNatClampNeg r15.toInt64) p0_found p0_out p1_puts p1_takes) H := hP
        have hD : va_D A (wld_X0_solve cI cJ cZ h_p0 h_p1 ad_p0 ad_p1 p0_rows p0_size p1_places p1_steps p1_coloured (vp_updL p0_cells ((v4 * (32 : Int32)) + v5).toNatClampNeg r15.toInt64) p0_found p0_out p1_puts p1_takes) := hD
        obtain ⟨x16, ex16⟩ : ∃ y : Int32, y = v5 + (1 : Int32) := ⟨_, rfl⟩
        have hw := hw x16 ex16
        refine lv_iinc (v := x16) (lv' := [(5, .int x16), (0, .ref h_p0), (1, .ref h_p1), (2, .int v2), (3, .int v3), (4, .int v4)]) hx hb dX0_solve_115 hl (k := 5) rfl (by rw [ex16]; rfl) (by decide) rfl (fun ls hl => ?_)
        refine lv_goto (tgt := 71) hx hb dX0_solve_118 (by decide) ?_
        exact ih _ _ hw _ _ _ hP hD hS (lv_sub hl [1, 2, 3, 4, 5, 0] rfl)
set_option maxHeartbeats 4000000 in
set_option maxRecDepth 100000 in
theorem c_X0_solve_L59 {p : Program} {l : Launch} {e : Env} {s : State} {m : MethodId} {args : Array Value} {below : List Frame} {meth : Method} {c : Code} {dC : Nat → ClassId} {dI : Nat → Nat → Nat} {A : Nat → Prop} {cI cJ cZ : ClassId} {h_p0 : Nat} {h_p1 : Nat} {ad_p0 : Nat → Nat} {ad_p1 : Nat → Nat} {p0_rows : Int32} {p0_size : Int32} {p1_places : Int32} {p1_steps : Int32} {p1_coloured : Int32} {p0_found : Nat → Int32} {p0_out : Nat → Int32} {p1_puts : Nat → Int32} {p1_takes : Nat → Int32} {v2 : Int32} {v3 : Int32} {z_p0_cells : Nat → Int64} {post : Int32 → (Int32) → (Int32) → (Nat → Int64) → (Nat → Int32) → (Nat → Int32) → Prop} {K : (Int32) → (Nat → Int64) → Prop} (E0 : xEnv p s m args meth c cX0_solve (some .boolean) 6 RX0 wsX0_solve (dC, dI) cI cJ cZ A) (hk : ∀ (v4 : Int32) (p0_cells : Nat → Int64) (H : Heap) (locs : List Loc) (ls : Array Slot), K v4 p0_cells → va_P (dC, dI) vwCl (wld_X0_solve cI cJ cZ h_p0 h_p1 ad_p0 ad_p1 p0_rows p0_size p1_places p1_steps p1_coloured p0_cells p0_found p0_out p1_puts p1_takes) H → va_D A (wld_X0_solve cI cJ cZ h_p0 h_p1 ad_p0 ad_p1 p0_rows p0_size p1_places p1_steps p1_coloured p0_cells p0_found p0_out p1_puts p1_takes) → va_S A s.heap H locs → lv_has ls 6 [(0, .ref h_p0), (3, .int v3)] → W p l e ({ frames := 3, cells := 0, slots := 0, locals := 85 }) s m args below meth c H locs 0 0 (MQ below (q_X0_solve dC dI cI cJ cZ h_p0 h_p1 ad_p0 ad_p1 p0_rows p0_size p1_places p1_steps p1_coloured z_p0_cells p0_found p0_out p1_puts p1_takes post A) args s 0 0 A) (F0 m 144 ls [])) : ∀ (n : Nat) (v4 : Int32) (p0_cells : Nat → Int64), w_X0_solve_L59 v2 v3 p0_rows p0_size p1_places p1_steps p0_found p0_out p1_puts p1_takes post K n v4 p0_cells → ∀ (H : Heap) (locs : List Loc) (ls : Array Slot), va_P (dC, dI) vwCl (wld_X0_solve cI cJ cZ h_p0 h_p1 ad_p0 ad_p1 p0_rows p0_size p1_places p1_steps p1_coloured p0_cells p0_found p0_out p1_puts p1_takes) H → va_D A (wld_X0_solve cI cJ cZ h_p0 h_p1 ad_p0 ad_p1 p0_rows p0_size p1_places p1_steps p1_coloured p0_cells p0_found p0_out p1_puts p1_takes) → va_S A s.heap H locs → lv_has ls 6 [(0, .ref h_p0), (1, .ref h_p1), (2, .int v2), (3, .int v3), (4, .int v4)] → W p l e ({ frames := 3, cells := 0, slots := 0, locals := 85 }) s m args below meth c H locs 0 0 (MQ below (q_X0_solve dC dI cI cJ cZ h_p0 h_p1 ad_p0 ad_p1 p0_rows p0_size p1_places p1_steps p1_coloured z_p0_cells p0_found p0_out p1_puts p1_takes post A) args s 0 0 A) (F0 m 59 ls []) := by
  obtain ⟨hx, hb, hr, hml, hown, hts, hlocks, hK, hA, n1, n2⟩ := id E0
  have iX0 : ∀ w ∈ u_ws RX0 TX0 5, w ∈ wsX0_solve := fun w h => List.mem_cons_of_mem _ (List.mem_append_left _ (List.mem_append_right _ h))
  have iX5 : ∀ w ∈ u_ws RX5 TX5 14, w ∈ wsX0_solve := fun w h => List.mem_cons_of_mem _ (List.mem_append_right _ h)
  intro n
  induction n with
  | zero => intro v4 p0_cells hw; exact hw.elim
  | succ n ih =>
    intro v4 p0_cells hw H locs ls hP hD hS hl
    have hw : w_X0_solve_L59b v2 v3 p0_rows p0_size p1_places p1_steps p0_found p0_out p1_puts p1_takes post K (w_X0_solve_L59 v2 v3 p0_rows p0_size p1_places p1_steps p0_found p0_out p1_puts p1_takes post K n) v4 p0_cells := hw
    unfold w_X0_solve_L59b at hw
    refine lv_iload hx hb dX0_solve_59 (lv_at hl 4 rfl) ?_
    refine lv_aload_n hx hb dX0_solve_61 rfl (lv_at hl 0 rfl) ?_
    refine va_get (D := (dC, dI)) (ci := 0) (v := .int p0_rows) (C := RX0) (T := TX0) (N := 5) hx hb hts iX0 hown hK hP 0 rfl rfl 3 (by decide) (hts (.fieldLink RX0 22 "NetHouse$Balance" "rows" "I") (by decide +kernel)) (fun _ h9 => h9) rfl dX0_solve_62 ?_
    refine lv_icmp_ge (tgt := 144) hx hb dX0_solve_65 (by decide) (fun c7 => ?_) (fun c8 => ?_)
    · have hw := hw.1 c7
      exact hk _ _ _ _ _ hw hP hD hS (lv_sub hl [0, 3] rfl)
    · have hw := hw.2 c8
      refine lv_iconst (v := 0) hx hb dX0_solve_68 (by decide) ?_
      refine lv_istore (lv' := [(5, .int (0 : Int32)), (0, .ref h_p0), (1, .ref h_p1), (2, .int v2), (3, .int v3), (4, .int v4)]) hx hb dX0_solve_69 hl (by decide) rfl (fun ls hl => ?_)
      obtain ⟨n17, hw⟩ := hw
      refine c_X0_solve_L71 (l := l) (z_p0_cells := p0_cells) E0 ?_ n17 _ _ hw _ _ _ hP hD hS (lv_sub hl [1, 2, 3, 4, 5, 0] rfl)
      · intro v18 s19 H locs ls hw hP hD hS hl
        have hP : va_P (dC, dI) vwCl (wld_X0_solve cI cJ cZ h_p0 h_p1 ad_p0 ad_p1 p0_rows p0_size p1_places p1_steps p1_coloured s19 p0_found p0_out p1_puts p1_takes) H := hP
        have hD : va_D A (wld_X0_solve cI cJ cZ h_p0 h_p1 ad_p0 ad_p1 p0_rows p0_size p1_places p1_steps p1_coloured s19 p0_found p0_out p1_puts p1_takes) := hD
        refine lv_aload_n hx hb dX0_solve_121 rfl (lv_at hl 0 rfl) ?_
        refine va_get (D := (dC, dI)) (ci := 0) (v := .ref (ad_p0 1)) (C := RX0) (T := TX0) (N := 5) hx hb hts iX0 hown hK hP 0 rfl rfl 1 (by decide) (hts (.fieldLink RX0 15 "NetHouse$Balance" "cells" "[J") (by decide +kernel)) (fun _ h9 => h9) rfl dX0_solve_122 ?_
        refine lv_iload hx hb dX0_solve_125 (lv_at hl 4 rfl) ?_
        refine lv_bipush (v := 32) hx hb dX0_solve_127 (by decide) ?_
        refine lv_imul hx hb dX0_solve_129 ?_
        refine lv_bipush (v := 16) hx hb dX0_solve_130 (by decide) ?_
        refine lv_iadd hx hb dX0_solve_132 ?_
        refine lv_iload hx hb dX0_solve_133 (lv_at hl 4 rfl) ?_
        refine lv_iadd hx hb dX0_solve_135 ?_
        refine lv_lconst (v := 1) hx hb dX0_solve_136 (by decide) ?_
        refine va_last hx hb hK hP hD hS 1 1 rfl rfl hw.1 dX0_solve_137 (fun H locs hP hD hS => ?_)
        have hw := hw.2
        have hP : va_P (dC, dI) vwCl (wld_X0_solve cI cJ cZ h_p0 h_p1 ad_p0 ad_p1 p0_rows p0_size p1_places p1_steps p1_coloured (vp_updL s19 (((v4 * (32 : Int32)) + (16 : Int32)) + v4).toNatClampNeg (1 : Int64)) p0_found p0_out p1_puts p1_takes) H := hP
        have hD : va_D A (wld_X0_solve cI cJ cZ h_p0 h_p1 ad_p0 ad_p1 p0_rows p0_size p1_places p1_steps p1_coloured (vp_updL s19 (((v4 * (32 : Int32)) + (16 : Int32)) + v4).toNatClampNeg (1 : Int64)) p0_found p0_out p1_puts p1_takes) := hD
        obtain ⟨x20, ex20⟩ : ∃ y : Int32, y = v4 + (1 : Int32) := ⟨_, rfl⟩
        have hw := hw x20 ex20
        refine lv_iinc (v := x20) (lv' := [(4, .int x20), (0, .ref h_p0), (1, .ref h_p1), (2, .int v2), (3, .int v3)]) hx hb dX0_solve_138 hl (k := 4) rfl (by rw [ex20]; rfl) (by decide) rfl (fun ls hl => ?_)
        refine lv_goto (tgt := 59) hx hb dX0_solve_141 (by decide) ?_
        exact ih _ _ hw _ _ _ hP hD hS (lv_sub hl [1, 2, 3, 4, 0] rfl)
set_option maxHeartbeats 4000000 in
set_option maxRecDepth 100000 in
theorem c_X0_solve_L147 {p : Program} {l : Launch} {e : Env} {s : State} {m : MethodId} {args : Array Value} {below : List Frame} {meth : Method} {c : Code} {dC : Nat → ClassId} {dI : Nat → Nat → Nat} {A : Nat → Prop} {cI cJ cZ : ClassId} {h_p0 : Nat} {h_p1 : Nat} {ad_p0 : Nat → Nat} {ad_p1 : Nat → Nat} {p0_rows : Int32} {p0_size : Int32} {p1_places : Int32} {p1_steps : Int32} {p1_coloured : Int32} {p0_found : Nat → Int32} {p1_puts : Nat → Int32} {p1_takes : Nat → Int32} {v3 : Int32} {z_p0_cells : Nat → Int64} {z_p0_out : Nat → Int32} {post : Int32 → (Int32) → (Int32) → (Nat → Int64) → (Nat → Int32) → (Nat → Int32) → Prop} {K : (Int32) → (Nat → Int64) → (Nat → Int32) → Prop} (E0 : xEnv p s m args meth c cX0_solve (some .boolean) 6 RX0 wsX0_solve (dC, dI) cI cJ cZ A) (hk : ∀ (v4 : Int32) (p0_cells : Nat → Int64) (p0_out : Nat → Int32) (H : Heap) (locs : List Loc) (ls : Array Slot), K v4 p0_cells p0_out → va_P (dC, dI) vwCl (wld_X0_solve cI cJ cZ h_p0 h_p1 ad_p0 ad_p1 p0_rows p0_size p1_places p1_steps p1_coloured p0_cells p0_found p0_out p1_puts p1_takes) H → va_D A (wld_X0_solve cI cJ cZ h_p0 h_p1 ad_p0 ad_p1 p0_rows p0_size p1_places p1_steps p1_coloured p0_cells p0_found p0_out p1_puts p1_takes) → va_S A s.heap H locs → lv_has ls 6 [(0, .ref h_p0)] → W p l e ({ frames := 3, cells := 0, slots := 0, locals := 85 }) s m args below meth c H locs 0 0 (MQ below (q_X0_solve dC dI cI cJ cZ h_p0 h_p1 ad_p0 ad_p1 p0_rows p0_size p1_places p1_steps p1_coloured z_p0_cells p0_found z_p0_out p1_puts p1_takes post A) args s 0 0 A) (F0 m 170 ls [])) : ∀ (n : Nat) (v4 : Int32) (p0_cells : Nat → Int64) (p0_out : Nat → Int32), w_X0_solve_L147 v3 p0_rows p0_size p1_places p1_steps p0_found p1_puts p1_takes post K n v4 p0_cells p0_out → ∀ (H : Heap) (locs : List Loc) (ls : Array Slot), va_P (dC, dI) vwCl (wld_X0_solve cI cJ cZ h_p0 h_p1 ad_p0 ad_p1 p0_rows p0_size p1_places p1_steps p1_coloured p0_cells p0_found p0_out p1_puts p1_takes) H → va_D A (wld_X0_solve cI cJ cZ h_p0 h_p1 ad_p0 ad_p1 p0_rows p0_size p1_places p1_steps p1_coloured p0_cells p0_found p0_out p1_puts p1_takes) → va_S A s.heap H locs → lv_has ls 6 [(0, .ref h_p0), (3, .int v3), (4, .int v4)] → W p l e ({ frames := 3, cells := 0, slots := 0, locals := 85 }) s m args below meth c H locs 0 0 (MQ below (q_X0_solve dC dI cI cJ cZ h_p0 h_p1 ad_p0 ad_p1 p0_rows p0_size p1_places p1_steps p1_coloured z_p0_cells p0_found z_p0_out p1_puts p1_takes post A) args s 0 0 A) (F0 m 147 ls []) := by
  obtain ⟨hx, hb, hr, hml, hown, hts, hlocks, hK, hA, n1, n2⟩ := id E0
  have iX0 : ∀ w ∈ u_ws RX0 TX0 5, w ∈ wsX0_solve := fun w h => List.mem_cons_of_mem _ (List.mem_append_left _ (List.mem_append_right _ h))
  have iX5 : ∀ w ∈ u_ws RX5 TX5 14, w ∈ wsX0_solve := fun w h => List.mem_cons_of_mem _ (List.mem_append_right _ h)
  intro n
  induction n with
  | zero => intro v4 p0_cells p0_out hw; exact hw.elim
  | succ n ih =>
    intro v4 p0_cells p0_out hw H locs ls hP hD hS hl
    have hw : w_X0_solve_L147b v3 p0_rows p0_size p1_places p1_steps p0_found p1_puts p1_takes post K (w_X0_solve_L147 v3 p0_rows p0_size p1_places p1_steps p0_found p1_puts p1_takes post K n) v4 p0_cells p0_out := hw
    unfold w_X0_solve_L147b at hw
    refine lv_iload hx hb dX0_solve_147 (lv_at hl 2 rfl) ?_
    refine lv_iload_n hx hb dX0_solve_149 rfl (lv_at hl 1 rfl) ?_
    refine lv_icmp_ge (tgt := 170) hx hb dX0_solve_150 (by decide) (fun c24 => ?_) (fun c25 => ?_)
    · have hw := hw.1 c24
      exact hk _ _ _ _ _ _ hw hP hD hS (lv_sub hl [0] rfl)
    · have hw := hw.2 c25
      refine lv_aload_n hx hb dX0_solve_153 rfl (lv_at hl 0 rfl) ?_
      refine lv_iload hx hb dX0_solve_154 (lv_at hl 2 rfl) ?_
      obtain ⟨hPc, hDc⟩ := x_sub (wc := (wld_X0_clearColumn cI cJ cZ h_p0 ad_p0 p0_rows p0_size p0_cells p0_out)) hP hD [0, 1, 3] (n := 7) rfl rfl (by decide +kernel)
      refine x_calli (ws' := fun (u : (Nat → Int64) × (Nat → Int32)) => (wld_X0_solve cI cJ cZ h_p0 h_p1 ad_p0 ad_p1 p0_rows p0_size p1_places p1_steps p1_coloured (u.1) p0_found (u.2) p1_puts p1_takes)) hP hD hS hA [0, 1, 3] [2, 4, 5, 6] [4, 5, 0, 6, 1, 2, 3] (n := 7) (k := 3) rfl (fun _ => rfl) rfl (by decide +kernel) (fun _ => rfl) (va_runV (As := [.int v4]) (rest := []) ⟨hx, hb, hml, hown, hts⟩ (c_X0_clearColumn (l := l) (dC := dC) (dI := dI) (cI := cI) (cJ := cJ) (cZ := cZ) (sz := H.size) (h_p0 := h_p0) (ad_p0 := ad_p0) (p0_rows := p0_rows) (p0_size := p0_size) (p0_cells := p0_cells) (p0_out := p0_out) hw) (cwV 1 hts gX0_solve_X0_clearColumn rfl rfl rfl (by decide +kernel) ⟨Nat.le_of_ble_eq_true rfl, Nat.le_of_ble_eq_true rfl⟩) ⟨xPre_blind, va_recv hK hP (ci := 0) (q0 := 0) rfl rfl, xPre_at hK hPc hDc n1 n2⟩ rfl rfl hl.1 rfl (lv_room (Nat.le_of_ble_eq_true rfl)) dX0_solve_156 ⟨Nat.zero_le _, Nat.zero_le _⟩) (fun r26 u H locs hw hP hD hS => ?_)
      obtain ⟨y27, y28⟩ := u
      try dsimp only at hw
      have hP : va_P (dC, dI) vwCl (wld_X0_solve cI cJ cZ h_p0 h_p1 ad_p0 ad_p1 p0_rows p0_size p1_places p1_steps p1_coloured y27 p0_found y28 p1_puts p1_takes) H := hP
      have hD : va_D A (wld_X0_solve cI cJ cZ h_p0 h_p1 ad_p0 ad_p1 p0_rows p0_size p1_places p1_steps p1_coloured y27 p0_found y28 p1_puts p1_takes) := hD
      refine lv_if_ne (tgt := 164) hx hb dX0_solve_159 (by decide) (fun c29 => ?_) (fun c30 => ?_)
      · have hw := hw.1 c29
        obtain ⟨x31, ex31⟩ : ∃ y : Int32, y = v4 + (1 : Int32) := ⟨_, rfl⟩
        have hw := hw x31 ex31
        refine lv_iinc (v := x31) (lv' := [(4, .int x31), (0, .ref h_p0), (3, .int v3)]) hx hb dX0_solve_164 hl (k := 2) rfl (by rw [ex31]; rfl) (by decide) rfl (fun ls hl => ?_)
        refine lv_goto (tgt := 147) hx hb dX0_solve_167 (by decide) ?_
        exact ih _ _ _ hw _ _ _ hP hD hS (lv_sub hl [1, 2, 0] rfl)
      · have hw := hw.2 c30
        refine lv_iconst (v := 0) hx hb dX0_solve_162 (by decide) ?_
        exact x_zret (w1 := fun (u : (Int32) × (Int32) × (Nat → Int64) × (Nat → Int32) × (Nat → Int32)) => (wld_X0_solve cI cJ cZ h_p0 h_p1 ad_p0 ad_p1 (u.1) (u.2.1) p1_places p1_steps p1_coloured (u.2.2.1) (u.2.2.2.1) (u.2.2.2.2) p1_puts p1_takes)) hx hb hr hlocks (by decide) (p0_rows, p0_size, y27, p0_found, y28) hw hP hD hS dX0_solve_163
set_option maxHeartbeats 4000000 in
set_option maxRecDepth 100000 in
theorem c_X0_solve {l : Launch} {dC : Nat → ClassId} {dI : Nat → Nat → Nat} {sz : Nat} {cI cJ cZ : ClassId} {h_p0 : Nat} {h_p1 : Nat} {ad_p0 : Nat → Nat} {ad_p1 : Nat → Nat} {p0_rows : Int32} {p0_size : Int32} {p1_places : Int32} {p1_steps : Int32} {p1_coloured : Int32} {p0_cells : Nat → Int64} {p0_found : Nat → Int32} {p0_out : Nat → Int32} {p1_puts : Nat → Int32} {p1_takes : Nat → Int32} {a2 : Int32} {post : Int32 → (Int32) → (Int32) → (Nat → Int64) → (Nat → Int32) → (Nat → Int32) → Prop} (hw : w_X0_solve p0_rows p0_size p1_places p1_steps p0_cells p0_found p0_out p1_puts p1_takes a2 post) : Met l yX0_solve wsX0_solve ({ frames := 3, cells := 0, slots := 0, locals := 85 }) (va_Pc [.ref h_p0, .ref h_p1, .int a2] (xPre (dC, dI) cI cJ cZ (wld_X0_solve cI cJ cZ h_p0 h_p1 ad_p0 ad_p1 p0_rows p0_size p1_places p1_steps p1_coloured p0_cells p0_found p0_out p1_puts p1_takes) sz)) (q_X0_solve dC dI cI cJ cZ h_p0 h_p1 ad_p0 ad_p1 p0_rows p0_size p1_places p1_steps p1_coloured p0_cells p0_found p0_out p1_puts p1_takes post (va_A (wld_X0_solve cI cJ cZ h_p0 h_p1 ad_p0 ad_p1 p0_rows p0_size p1_places p1_steps p1_coloured p0_cells p0_found p0_out p1_puts p1_takes) sz)) 0 0 (va_A (wld_X0_solve cI cJ cZ h_p0 h_p1 ad_p0 ad_p1 p0_rows p0_size p1_places p1_steps p1_coloured p0_cells p0_found p0_out p1_puts p1_takes) sz) := by
  refine x_met (cc := cX0_solve) (maxL := 6) (ret := (some .boolean)) (own := RX0) (Qc := fun A => (q_X0_solve dC dI cI cJ cZ h_p0 h_p1 ad_p0 ad_p1 p0_rows p0_size p1_places p1_steps p1_coloured p0_cells p0_found p0_out p1_puts p1_takes post A)) (by decide) rfl rfl (Nat.le_of_ble_eq_true rfl) ?_
  intro p e s m args below meth c A ls E0 hP hD hS hl
  obtain ⟨hx, hb, hr, hml, hown, hts, hlocks, hK, hA, n1, n2⟩ := id E0
  have iX0 : ∀ w ∈ u_ws RX0 TX0 5, w ∈ wsX0_solve := fun w h => List.mem_cons_of_mem _ (List.mem_append_left _ (List.mem_append_right _ h))
  have iX5 : ∀ w ∈ u_ws RX5 TX5 14, w ∈ wsX0_solve := fun w h => List.mem_cons_of_mem _ (List.mem_append_right _ h)
  have hS0 := hS
  have hl : lv_has ls 6 [(0, .ref h_p0), (1, .ref h_p1), (2, .int a2)] := hl
  unfold w_X0_solve at hw
  obtain ⟨H, hH⟩ : ∃ H, H = s.heap := ⟨_, rfl⟩
  have hS : va_S A s.heap H [] := by rw [hH]; exact hS
  have hP : va_P (dC, dI) vwCl (wld_X0_solve cI cJ cZ h_p0 h_p1 ad_p0 ad_p1 p0_rows p0_size p1_places p1_steps p1_coloured p0_cells p0_found p0_out p1_puts p1_takes) H := by rw [hH]; exact hP
  suffices hG : W p l e ({ frames := 3, cells := 0, slots := 0, locals := 85 }) s m args below meth c H [] 0 0 (MQ below (q_X0_solve dC dI cI cJ cZ h_p0 h_p1 ad_p0 ad_p1 p0_rows p0_size p1_places p1_steps p1_coloured p0_cells p0_found p0_out p1_puts p1_takes post A) args s 0 0 A) (F0 m 0 ls []) by rw [hH] at hG; exact hG
  clear hH
  refine lv_aload_n hx hb dX0_solve_0 rfl (lv_at hl 0 rfl) ?_
  refine lv_iconst (v := 0) hx hb dX0_solve_1 (by decide) ?_
  refine va_put (D := (dC, dI)) (ci := 0) (v := .int (0 : Int32)) (ty := .int) (C := RX0) (T := TX0) (N := 5) hx hb hts iX0 tyX0 tyX0_ok nmX0 hown hK hP hD hS 0 rfl rfl 4 (by decide) (hts (.fieldLink RX0 26 "NetHouse$Balance" "size" "I") (by decide +kernel)) (fun _ h9 => h9) rfl (by decide +kernel) rfl rfl (Nat.le_of_ble_eq_true rfl) dX0_solve_2 (fun H locs hP hD hS => ?_)
  have hP : va_P (dC, dI) vwCl (wld_X0_solve cI cJ cZ h_p0 h_p1 ad_p0 ad_p1 p0_rows (0 : Int32) p1_places p1_steps p1_coloured p0_cells p0_found p0_out p1_puts p1_takes) H := hP
  have hD : va_D A (wld_X0_solve cI cJ cZ h_p0 h_p1 ad_p0 ad_p1 p0_rows (0 : Int32) p1_places p1_steps p1_coloured p0_cells p0_found p0_out p1_puts p1_takes) := hD
  refine lv_aload_n hx hb dX0_solve_5 rfl (lv_at hl 0 rfl) ?_
  refine lv_iload_n hx hb dX0_solve_6 rfl (lv_at hl 2 rfl) ?_
  refine lv_if_eq (tgt := 17) hx hb dX0_solve_7 (by decide) (fun c1 => ?_) (fun c2 => ?_)
  · have hw := hw.1 c1
    refine lv_aload_n hx hb dX0_solve_17 rfl (lv_at hl 1 rfl) ?_
    refine va_get (D := (dC, dI)) (ci := 5) (v := .int p1_steps) (C := RX5) (T := TX5) (N := 14) hx hb hts iX5 hown hK hP 4 rfl rfl 12 (by decide) (hts (.fieldLink RX0 34 "NetHouse$Net" "steps" "I") (by decide +kernel)) (fun _ h9 => h9) rfl dX0_solve_18 ?_
    refine va_put (D := (dC, dI)) (ci := 0) (v := .int p1_steps) (ty := .int) (C := RX0) (T := TX0) (N := 5) hx hb hts iX0 tyX0 tyX0_ok nmX0 hown hK hP hD hS 0 rfl rfl 3 (by decide) (hts (.fieldLink RX0 22 "NetHouse$Balance" "rows" "I") (by decide +kernel)) (fun _ h9 => h9) rfl (by decide +kernel) rfl rfl (Nat.le_of_ble_eq_true rfl) dX0_solve_21 (fun H locs hP hD hS => ?_)
    have hP : va_P (dC, dI) vwCl (wld_X0_solve cI cJ cZ h_p0 h_p1 ad_p0 ad_p1 p1_steps (0 : Int32) p1_places p1_steps p1_coloured p0_cells p0_found p0_out p1_puts p1_takes) H := hP
    have hD : va_D A (wld_X0_solve cI cJ cZ h_p0 h_p1 ad_p0 ad_p1 p1_steps (0 : Int32) p1_places p1_steps p1_coloured p0_cells p0_found p0_out p1_puts p1_takes) := hD
    refine lv_iload_n hx hb dX0_solve_24 rfl (lv_at hl 2 rfl) ?_
    refine lv_if_eq (tgt := 35) hx hb dX0_solve_25 (by decide) (fun c3 => ?_) (fun c4 => ?_)
    · have hw := hw.1 c3
      refine lv_aload_n hx hb dX0_solve_35 rfl (lv_at hl 1 rfl) ?_
      refine va_get (D := (dC, dI)) (ci := 5) (v := .int p1_places) (C := RX5) (T := TX5) (N := 14) hx hb hts iX5 hown hK hP 4 rfl rfl 11 (by decide) (hts (.fieldLink RX0 29 "NetHouse$Net" "places" "I") (by decide +kernel)) (fun _ h9 => h9) rfl dX0_solve_36 ?_
      refine lv_istore_n (lv' := [(3, .int p1_places), (0, .ref h_p0), (1, .ref h_p1), (2, .int a2)]) hx hb dX0_solve_39 rfl hl (by decide) rfl (fun ls hl => ?_)
      refine lv_aload_n hx hb dX0_solve_40 rfl (lv_at hl 1 rfl) ?_
      refine va_get (D := (dC, dI)) (ci := 0) (v := .ref (ad_p0 0)) (C := RX0) (T := TX0) (N := 5) hx hb hts iX0 hown hK hP 0 rfl rfl 0 (by decide) (hts (.fieldLink RX0 11 "NetHouse$Balance" "out" "[I") (by decide +kernel)) (fun _ h9 => h9) rfl dX0_solve_41 ?_
      refine lv_iconst (v := 0) hx hb dX0_solve_44 (by decide) ?_
      obtain ⟨hPc, hDc⟩ := x_sub (wc := (wld_J7_fill_53178 cI cJ cZ (ad_p0 0) 16 p0_out)) hP hD [3] (n := 7) rfl rfl (by decide +kernel)
      refine x_callv (ws' := fun (u : (Nat → Int32)) => (wld_X0_solve cI cJ cZ h_p0 h_p1 ad_p0 ad_p1 p1_steps (0 : Int32) p1_places p1_steps p1_coloured p0_cells p0_found u p1_puts p1_takes)) hP hD hS hA [3] [0, 1, 2, 4, 5, 6] [0, 1, 2, 6, 3, 4, 5] (n := 7) (k := 1) rfl (fun _ => rfl) rfl (by decide +kernel) (fun _ => rfl) (va_runS (As := [.ref (ad_p0 0), .int (0 : Int32)]) (rest := []) ⟨hx, hb, hml, hown, hts⟩ (c_J7_fill_53178 (l := l) (dC := dC) (dI := dI) (cI := cI) (cJ := cJ) (cZ := cZ) (sz := H.size) (h_p0 := (ad_p0 0)) (n_p0 := 16) (p0 := p0_out) hw) (va_cwS 2 hts gX0_solve_J7_fill_53178 rfl rfl rfl (by decide +kernel) ⟨Nat.le_of_ble_eq_true rfl, Nat.le_of_ble_eq_true rfl⟩) ⟨xPre_blind, xPre_at hK hPc hDc n1 n2⟩ rfl rfl hl.1 rfl (lv_room (Nat.le_of_ble_eq_true rfl)) dX0_solve_45 ⟨Nat.zero_le _, Nat.zero_le _⟩) (fun u H locs hw hP hD hS => ?_)
      obtain ⟨y5, rfl⟩ : ∃ z, z = u := ⟨_, rfl⟩
      try dsimp only at hw
      have hP : va_P (dC, dI) vwCl (wld_X0_solve cI cJ cZ h_p0 h_p1 ad_p0 ad_p1 p1_steps (0 : Int32) p1_places p1_steps p1_coloured p0_cells p0_found y5 p1_puts p1_takes) H := hP
      have hD : va_D A (wld_X0_solve cI cJ cZ h_p0 h_p1 ad_p0 ad_p1 p1_steps (0 : Int32) p1_places p1_steps p1_coloured p0_cells p0_found y5 p1_puts p1_takes) := hD
      refine lv_aload_n hx hb dX0_solve_48 rfl (lv_at hl 1 rfl) ?_
      refine va_get (D := (dC, dI)) (ci := 0) (v := .ref (ad_p0 1)) (C := RX0) (T := TX0) (N := 5) hx hb hts iX0 hown hK hP 0 rfl rfl 1 (by decide) (hts (.fieldLink RX0 15 "NetHouse$Balance" "cells" "[J") (by decide +kernel)) (fun _ h9 => h9) rfl dX0_solve_49 ?_
      refine lv_lconst (v := 0) hx hb dX0_solve_52 (by decide) ?_
      obtain ⟨hPc, hDc⟩ := x_sub (wc := (wld_J7_fill_d0a16 cI cJ cZ (ad_p0 1) 512 p0_cells)) hP hD [1] (n := 7) rfl rfl (by decide +kernel)
      refine x_callv (ws' := fun (u : (Nat → Int64)) => (wld_X0_solve cI cJ cZ h_p0 h_p1 ad_p0 ad_p1 p1_steps (0 : Int32) p1_places p1_steps p1_coloured u p0_found y5 p1_puts p1_takes)) hP hD hS hA [1] [0, 2, 3, 4, 5, 6] [0, 6, 1, 2, 3, 4, 5] (n := 7) (k := 1) rfl (fun _ => rfl) rfl (by decide +kernel) (fun _ => rfl) (va_runS (As := [.ref (ad_p0 1), .long (0 : Int64)]) (rest := []) ⟨hx, hb, hml, hown, hts⟩ (c_J7_fill_d0a16 (l := l) (dC := dC) (dI := dI) (cI := cI) (cJ := cJ) (cZ := cZ) (sz := H.size) (h_p0 := (ad_p0 1)) (n_p0 := 512) (p0 := p0_cells) hw) (va_cwS 2 hts gX0_solve_J7_fill_d0a16 rfl rfl rfl (by decide +kernel) ⟨Nat.le_of_ble_eq_true rfl, Nat.le_of_ble_eq_true rfl⟩) ⟨xPre_blind, xPre_at hK hPc hDc n1 n2⟩ rfl rfl hl.1 rfl (lv_room (Nat.le_of_ble_eq_true rfl)) dX0_solve_53 ⟨Nat.zero_le _, Nat.zero_le _⟩) (fun u H locs hw hP hD hS => ?_)
      obtain ⟨y6, rfl⟩ : ∃ z, z = u := ⟨_, rfl⟩
      try dsimp only at hw
      have hP : va_P (dC, dI) vwCl (wld_X0_solve cI cJ cZ h_p0 h_p1 ad_p0 ad_p1 p1_steps (0 : Int32) p1_places p1_steps p1_coloured y6 p0_found y5 p1_puts p1_takes) H := hP
      have hD : va_D A (wld_X0_solve cI cJ cZ h_p0 h_p1 ad_p0 ad_p1 p1_steps (0 : Int32) p1_places p1_steps p1_coloured y6 p0_found y5 p1_puts p1_takes) := hD
      refine lv_iconst (v := 0) hx hb dX0_solve_56 (by decide) ?_
      refine lv_istore (lv' := [(4, .int (0 : Int32)), (3, .int p1_places), (0, .ref h_p0), (1, .ref h_p1), (2, .int a2)]) hx hb dX0_solve_57 hl (by decide) rfl (fun ls hl => ?_)
      obtain ⟨n21, hw⟩ := hw
      refine c_X0_solve_L59 (l := l) (z_p0_cells := y6) E0 ?_ n21 _ _ hw _ _ _ hP hD hS (lv_sub hl [2, 3, 4, 1, 0] rfl)
      · intro v22 s23 H locs ls hw hP hD hS hl
        have hP : va_P (dC, dI) vwCl (wld_X0_solve cI cJ cZ h_p0 h_p1 ad_p0 ad_p1 p1_steps (0 : Int32) p1_places p1_steps p1_coloured s23 p0_found y5 p1_puts p1_takes) H := hP
        have hD : va_D A (wld_X0_solve cI cJ cZ h_p0 h_p1 ad_p0 ad_p1 p1_steps (0 : Int32) p1_places p1_steps p1_coloured s23 p0_found y5 p1_puts p1_takes) := hD
        refine lv_iconst (v := 0) hx hb dX0_solve_144 (by decide) ?_
        refine lv_istore (lv' := [(4, .int (0 : Int32)), (0, .ref h_p0), (3, .int p1_places)]) hx hb dX0_solve_145 hl (by decide) rfl (fun ls hl => ?_)
        obtain ⟨n32, hw⟩ := hw
        refine c_X0_solve_L147 (l := l) (z_p0_cells := s23) (z_p0_out := y5) E0 ?_ n32 _ _ _ hw _ _ _ hP hD hS (lv_sub hl [1, 2, 0] rfl)
        · intro v33 s34 s35 H locs ls hw hP hD hS hl
          have hP : va_P (dC, dI) vwCl (wld_X0_solve cI cJ cZ h_p0 h_p1 ad_p0 ad_p1 p1_steps (0 : Int32) p1_places p1_steps p1_coloured s34 p0_found s35 p1_puts p1_takes) H := hP
          have hD : va_D A (wld_X0_solve cI cJ cZ h_p0 h_p1 ad_p0 ad_p1 p1_steps (0 : Int32) p1_places p1_steps p1_coloured s34 p0_found s35 p1_puts p1_takes) := hD
          refine lv_aload_n hx hb dX0_solve_170 rfl (lv_at hl 0 rfl) ?_
          obtain ⟨hPc, hDc⟩ := x_sub (wc := (wld_X0_keepRest cI cJ cZ h_p0 ad_p0 p1_steps (0 : Int32) s34 p0_found s35)) hP hD [0, 1, 2, 3] (n := 7) rfl rfl (by decide +kernel)
          refine x_callv (ws' := fun (u : (Int32) × (Nat → Int32)) => (wld_X0_solve cI cJ cZ h_p0 h_p1 ad_p0 ad_p1 p1_steps (u.1) p1_places p1_steps p1_coloured s34 (u.2) s35 p1_puts p1_takes)) hP hD hS hA [0, 1, 2, 3] [4, 5, 6] [3, 4, 5, 6, 0, 1, 2] (n := 7) (k := 4) rfl (fun _ => rfl) rfl (by decide +kernel) (fun _ => rfl) (va_runV (As := []) (rest := []) ⟨hx, hb, hml, hown, hts⟩ (c_X0_keepRest (l := l) (dC := dC) (dI := dI) (cI := cI) (cJ := cJ) (cZ := cZ) (sz := H.size) (h_p0 := h_p0) (ad_p0 := ad_p0) (p0_rows := p1_steps) (p0_size := (0 : Int32)) (p0_cells := s34) (p0_found := p0_found) (p0_out := s35) hw) (cwV 0 hts gX0_solve_X0_keepRest rfl rfl rfl (by decide +kernel) ⟨Nat.le_of_ble_eq_true rfl, Nat.le_of_ble_eq_true rfl⟩) ⟨xPre_blind, va_recv hK hP (ci := 0) (q0 := 0) rfl rfl, xPre_at hK hPc hDc n1 n2⟩ rfl rfl hl.1 rfl (lv_room (Nat.le_of_ble_eq_true rfl)) dX0_solve_171 ⟨Nat.zero_le _, Nat.zero_le _⟩) (fun u H locs hw hP hD hS => ?_)
          obtain ⟨y36, y37⟩ := u
          try dsimp only at hw
          have hP : va_P (dC, dI) vwCl (wld_X0_solve cI cJ cZ h_p0 h_p1 ad_p0 ad_p1 p1_steps y36 p1_places p1_steps p1_coloured s34 y37 s35 p1_puts p1_takes) H := hP
          have hD : va_D A (wld_X0_solve cI cJ cZ h_p0 h_p1 ad_p0 ad_p1 p1_steps y36 p1_places p1_steps p1_coloured s34 y37 s35 p1_puts p1_takes) := hD
          refine lv_iconst (v := 1) hx hb dX0_solve_174 (by decide) ?_
          exact x_zret (w1 := fun (u : (Int32) × (Int32) × (Nat → Int64) × (Nat → Int32) × (Nat → Int32)) => (wld_X0_solve cI cJ cZ h_p0 h_p1 ad_p0 ad_p1 (u.1) (u.2.1) p1_places p1_steps p1_coloured (u.2.2.1) (u.2.2.2.1) (u.2.2.2.2) p1_puts p1_takes)) hx hb hr hlocks (by decide) (p1_steps, y36, s34, y37, s35) hw hP hD hS dX0_solve_175
    · have hw := hw.2 c4
      refine lv_aload_n hx hb dX0_solve_28 rfl (lv_at hl 1 rfl) ?_
      refine va_get (D := (dC, dI)) (ci := 5) (v := .int p1_steps) (C := RX5) (T := TX5) (N := 14) hx hb hts iX5 hown hK hP 4 rfl rfl 12 (by decide) (hts (.fieldLink RX0 34 "NetHouse$Net" "steps" "I") (by decide +kernel)) (fun _ h9 => h9) rfl dX0_solve_29 ?_
      refine lv_goto (tgt := 39) hx hb dX0_solve_32 (by decide) ?_
      refine lv_istore_n (lv' := [(3, .int p1_steps), (0, .ref h_p0), (1, .ref h_p1), (2, .int a2)]) hx hb dX0_solve_39 rfl hl (by decide) rfl (fun ls hl => ?_)
      refine lv_aload_n hx hb dX0_solve_40 rfl (lv_at hl 1 rfl) ?_
      refine va_get (D := (dC, dI)) (ci := 0) (v := .ref (ad_p0 0)) (C := RX0) (T := TX0) (N := 5) hx hb hts iX0 hown hK hP 0 rfl rfl 0 (by decide) (hts (.fieldLink RX0 11 "NetHouse$Balance" "out" "[I") (by decide +kernel)) (fun _ h9 => h9) rfl dX0_solve_41 ?_
      refine lv_iconst (v := 0) hx hb dX0_solve_44 (by decide) ?_
      obtain ⟨hPc, hDc⟩ := x_sub (wc := (wld_J7_fill_53178 cI cJ cZ (ad_p0 0) 16 p0_out)) hP hD [3] (n := 7) rfl rfl (by decide +kernel)
      refine x_callv (ws' := fun (u : (Nat → Int32)) => (wld_X0_solve cI cJ cZ h_p0 h_p1 ad_p0 ad_p1 p1_steps (0 : Int32) p1_places p1_steps p1_coloured p0_cells p0_found u p1_puts p1_takes)) hP hD hS hA [3] [0, 1, 2, 4, 5, 6] [0, 1, 2, 6, 3, 4, 5] (n := 7) (k := 1) rfl (fun _ => rfl) rfl (by decide +kernel) (fun _ => rfl) (va_runS (As := [.ref (ad_p0 0), .int (0 : Int32)]) (rest := []) ⟨hx, hb, hml, hown, hts⟩ (c_J7_fill_53178 (l := l) (dC := dC) (dI := dI) (cI := cI) (cJ := cJ) (cZ := cZ) (sz := H.size) (h_p0 := (ad_p0 0)) (n_p0 := 16) (p0 := p0_out) hw) (va_cwS 2 hts gX0_solve_J7_fill_53178 rfl rfl rfl (by decide +kernel) ⟨Nat.le_of_ble_eq_true rfl, Nat.le_of_ble_eq_true rfl⟩) ⟨xPre_blind, xPre_at hK hPc hDc n1 n2⟩ rfl rfl hl.1 rfl (lv_room (Nat.le_of_ble_eq_true rfl)) dX0_solve_45 ⟨Nat.zero_le _, Nat.zero_le _⟩) (fun u H locs hw hP hD hS => ?_)
      obtain ⟨y38, rfl⟩ : ∃ z, z = u := ⟨_, rfl⟩
      try dsimp only at hw
      have hP : va_P (dC, dI) vwCl (wld_X0_solve cI cJ cZ h_p0 h_p1 ad_p0 ad_p1 p1_steps (0 : Int32) p1_places p1_steps p1_coloured p0_cells p0_found y38 p1_puts p1_takes) H := hP
      have hD : va_D A (wld_X0_solve cI cJ cZ h_p0 h_p1 ad_p0 ad_p1 p1_steps (0 : Int32) p1_places p1_steps p1_coloured p0_cells p0_found y38 p1_puts p1_takes) := hD
      refine lv_aload_n hx hb dX0_solve_48 rfl (lv_at hl 1 rfl) ?_
      refine va_get (D := (dC, dI)) (ci := 0) (v := .ref (ad_p0 1)) (C := RX0) (T := TX0) (N := 5) hx hb hts iX0 hown hK hP 0 rfl rfl 1 (by decide) (hts (.fieldLink RX0 15 "NetHouse$Balance" "cells" "[J") (by decide +kernel)) (fun _ h9 => h9) rfl dX0_solve_49 ?_
      refine lv_lconst (v := 0) hx hb dX0_solve_52 (by decide) ?_
      obtain ⟨hPc, hDc⟩ := x_sub (wc := (wld_J7_fill_d0a16 cI cJ cZ (ad_p0 1) 512 p0_cells)) hP hD [1] (n := 7) rfl rfl (by decide +kernel)
      refine x_callv (ws' := fun (u : (Nat → Int64)) => (wld_X0_solve cI cJ cZ h_p0 h_p1 ad_p0 ad_p1 p1_steps (0 : Int32) p1_places p1_steps p1_coloured u p0_found y38 p1_puts p1_takes)) hP hD hS hA [1] [0, 2, 3, 4, 5, 6] [0, 6, 1, 2, 3, 4, 5] (n := 7) (k := 1) rfl (fun _ => rfl) rfl (by decide +kernel) (fun _ => rfl) (va_runS (As := [.ref (ad_p0 1), .long (0 : Int64)]) (rest := []) ⟨hx, hb, hml, hown, hts⟩ (c_J7_fill_d0a16 (l := l) (dC := dC) (dI := dI) (cI := cI) (cJ := cJ) (cZ := cZ) (sz := H.size) (h_p0 := (ad_p0 1)) (n_p0 := 512) (p0 := p0_cells) hw) (va_cwS 2 hts gX0_solve_J7_fill_d0a16 rfl rfl rfl (by decide +kernel) ⟨Nat.le_of_ble_eq_true rfl, Nat.le_of_ble_eq_true rfl⟩) ⟨xPre_blind, xPre_at hK hPc hDc n1 n2⟩ rfl rfl hl.1 rfl (lv_room (Nat.le_of_ble_eq_true rfl)) dX0_solve_53 ⟨Nat.zero_le _, Nat.zero_le _⟩) (fun u H locs hw hP hD hS => ?_)
      obtain ⟨y39, rfl⟩ : ∃ z, z = u := ⟨_, rfl⟩
      try dsimp only at hw
      have hP : va_P (dC, dI) vwCl (wld_X0_solve cI cJ cZ h_p0 h_p1 ad_p0 ad_p1 p1_steps (0 : Int32) p1_places p1_steps p1_coloured y39 p0_found y38 p1_puts p1_takes) H := hP
      have hD : va_D A (wld_X0_solve cI cJ cZ h_p0 h_p1 ad_p0 ad_p1 p1_steps (0 : Int32) p1_places p1_steps p1_coloured y39 p0_found y38 p1_puts p1_takes) := hD
      refine lv_iconst (v := 0) hx hb dX0_solve_56 (by decide) ?_
      refine lv_istore (lv' := [(4, .int (0 : Int32)), (3, .int p1_steps), (0, .ref h_p0), (1, .ref h_p1), (2, .int a2)]) hx hb dX0_solve_57 hl (by decide) rfl (fun ls hl => ?_)
      obtain ⟨n40, hw⟩ := hw
      refine c_X0_solve_L59 (l := l) (z_p0_cells := y39) E0 ?_ n40 _ _ hw _ _ _ hP hD hS (lv_sub hl [2, 3, 4, 1, 0] rfl)
      · intro v41 s42 H locs ls hw hP hD hS hl
        have hP : va_P (dC, dI) vwCl (wld_X0_solve cI cJ cZ h_p0 h_p1 ad_p0 ad_p1 p1_steps (0 : Int32) p1_places p1_steps p1_coloured s42 p0_found y38 p1_puts p1_takes) H := hP
        have hD : va_D A (wld_X0_solve cI cJ cZ h_p0 h_p1 ad_p0 ad_p1 p1_steps (0 : Int32) p1_places p1_steps p1_coloured s42 p0_found y38 p1_puts p1_takes) := hD
        refine lv_iconst (v := 0) hx hb dX0_solve_144 (by decide) ?_
        refine lv_istore (lv' := [(4, .int (0 : Int32)), (0, .ref h_p0), (3, .int p1_steps)]) hx hb dX0_solve_145 hl (by decide) rfl (fun ls hl => ?_)
        obtain ⟨n43, hw⟩ := hw
        refine c_X0_solve_L147 (l := l) (z_p0_cells := s42) (z_p0_out := y38) E0 ?_ n43 _ _ _ hw _ _ _ hP hD hS (lv_sub hl [1, 2, 0] rfl)
        · intro v44 s45 s46 H locs ls hw hP hD hS hl
          have hP : va_P (dC, dI) vwCl (wld_X0_solve cI cJ cZ h_p0 h_p1 ad_p0 ad_p1 p1_steps (0 : Int32) p1_places p1_steps p1_coloured s45 p0_found s46 p1_puts p1_takes) H := hP
          have hD : va_D A (wld_X0_solve cI cJ cZ h_p0 h_p1 ad_p0 ad_p1 p1_steps (0 : Int32) p1_places p1_steps p1_coloured s45 p0_found s46 p1_puts p1_takes) := hD
          refine lv_aload_n hx hb dX0_solve_170 rfl (lv_at hl 0 rfl) ?_
          obtain ⟨hPc, hDc⟩ := x_sub (wc := (wld_X0_keepRest cI cJ cZ h_p0 ad_p0 p1_steps (0 : Int32) s45 p0_found s46)) hP hD [0, 1, 2, 3] (n := 7) rfl rfl (by decide +kernel)
          refine x_callv (ws' := fun (u : (Int32) × (Nat → Int32)) => (wld_X0_solve cI cJ cZ h_p0 h_p1 ad_p0 ad_p1 p1_steps (u.1) p1_places p1_steps p1_coloured s45 (u.2) s46 p1_puts p1_takes)) hP hD hS hA [0, 1, 2, 3] [4, 5, 6] [3, 4, 5, 6, 0, 1, 2] (n := 7) (k := 4) rfl (fun _ => rfl) rfl (by decide +kernel) (fun _ => rfl) (va_runV (As := []) (rest := []) ⟨hx, hb, hml, hown, hts⟩ (c_X0_keepRest (l := l) (dC := dC) (dI := dI) (cI := cI) (cJ := cJ) (cZ := cZ) (sz := H.size) (h_p0 := h_p0) (ad_p0 := ad_p0) (p0_rows := p1_steps) (p0_size := (0 : Int32)) (p0_cells := s45) (p0_found := p0_found) (p0_out := s46) hw) (cwV 0 hts gX0_solve_X0_keepRest rfl rfl rfl (by decide +kernel) ⟨Nat.le_of_ble_eq_true rfl, Nat.le_of_ble_eq_true rfl⟩) ⟨xPre_blind, va_recv hK hP (ci := 0) (q0 := 0) rfl rfl, xPre_at hK hPc hDc n1 n2⟩ rfl rfl hl.1 rfl (lv_room (Nat.le_of_ble_eq_true rfl)) dX0_solve_171 ⟨Nat.zero_le _, Nat.zero_le _⟩) (fun u H locs hw hP hD hS => ?_)
          obtain ⟨y47, y48⟩ := u
          try dsimp only at hw
          have hP : va_P (dC, dI) vwCl (wld_X0_solve cI cJ cZ h_p0 h_p1 ad_p0 ad_p1 p1_steps y47 p1_places p1_steps p1_coloured s45 y48 s46 p1_puts p1_takes) H := hP
          have hD : va_D A (wld_X0_solve cI cJ cZ h_p0 h_p1 ad_p0 ad_p1 p1_steps y47 p1_places p1_steps p1_coloured s45 y48 s46 p1_puts p1_takes) := hD
          refine lv_iconst (v := 1) hx hb dX0_solve_174 (by decide) ?_
          exact x_zret (w1 := fun (u : (Int32) × (Int32) × (Nat → Int64) × (Nat → Int32) × (Nat → Int32)) => (wld_X0_solve cI cJ cZ h_p0 h_p1 ad_p0 ad_p1 (u.1) (u.2.1) p1_places p1_steps p1_coloured (u.2.2.1) (u.2.2.2.1) (u.2.2.2.2) p1_puts p1_takes)) hx hb hr hlocks (by decide) (p1_steps, y47, s45, y48, s46) hw hP hD hS dX0_solve_175
  · have hw := hw.2 c2
    refine lv_aload_n hx hb dX0_solve_10 rfl (lv_at hl 1 rfl) ?_
    refine va_get (D := (dC, dI)) (ci := 5) (v := .int p1_places) (C := RX5) (T := TX5) (N := 14) hx hb hts iX5 hown hK hP 4 rfl rfl 11 (by decide) (hts (.fieldLink RX0 29 "NetHouse$Net" "places" "I") (by decide +kernel)) (fun _ h9 => h9) rfl dX0_solve_11 ?_
    refine lv_goto (tgt := 21) hx hb dX0_solve_14 (by decide) ?_
    refine va_put (D := (dC, dI)) (ci := 0) (v := .int p1_places) (ty := .int) (C := RX0) (T := TX0) (N := 5) hx hb hts iX0 tyX0 tyX0_ok nmX0 hown hK hP hD hS 0 rfl rfl 3 (by decide) (hts (.fieldLink RX0 22 "NetHouse$Balance" "rows" "I") (by decide +kernel)) (fun _ h9 => h9) rfl (by decide +kernel) rfl rfl (Nat.le_of_ble_eq_true rfl) dX0_solve_21 (fun H locs hP hD hS => ?_)
    have hP : va_P (dC, dI) vwCl (wld_X0_solve cI cJ cZ h_p0 h_p1 ad_p0 ad_p1 p1_places (0 : Int32) p1_places p1_steps p1_coloured p0_cells p0_found p0_out p1_puts p1_takes) H := hP
    have hD : va_D A (wld_X0_solve cI cJ cZ h_p0 h_p1 ad_p0 ad_p1 p1_places (0 : Int32) p1_places p1_steps p1_coloured p0_cells p0_found p0_out p1_puts p1_takes) := hD
    refine lv_iload_n hx hb dX0_solve_24 rfl (lv_at hl 2 rfl) ?_
    refine lv_if_eq (tgt := 35) hx hb dX0_solve_25 (by decide) (fun c49 => ?_) (fun c50 => ?_)
    · have hw := hw.1 c49
      refine lv_aload_n hx hb dX0_solve_35 rfl (lv_at hl 1 rfl) ?_
      refine va_get (D := (dC, dI)) (ci := 5) (v := .int p1_places) (C := RX5) (T := TX5) (N := 14) hx hb hts iX5 hown hK hP 4 rfl rfl 11 (by decide) (hts (.fieldLink RX0 29 "NetHouse$Net" "places" "I") (by decide +kernel)) (fun _ h9 => h9) rfl dX0_solve_36 ?_
      refine lv_istore_n (lv' := [(3, .int p1_places), (0, .ref h_p0), (1, .ref h_p1), (2, .int a2)]) hx hb dX0_solve_39 rfl hl (by decide) rfl (fun ls hl => ?_)
      refine lv_aload_n hx hb dX0_solve_40 rfl (lv_at hl 1 rfl) ?_
      refine va_get (D := (dC, dI)) (ci := 0) (v := .ref (ad_p0 0)) (C := RX0) (T := TX0) (N := 5) hx hb hts iX0 hown hK hP 0 rfl rfl 0 (by decide) (hts (.fieldLink RX0 11 "NetHouse$Balance" "out" "[I") (by decide +kernel)) (fun _ h9 => h9) rfl dX0_solve_41 ?_
      refine lv_iconst (v := 0) hx hb dX0_solve_44 (by decide) ?_
      obtain ⟨hPc, hDc⟩ := x_sub (wc := (wld_J7_fill_53178 cI cJ cZ (ad_p0 0) 16 p0_out)) hP hD [3] (n := 7) rfl rfl (by decide +kernel)
      refine x_callv (ws' := fun (u : (Nat → Int32)) => (wld_X0_solve cI cJ cZ h_p0 h_p1 ad_p0 ad_p1 p1_places (0 : Int32) p1_places p1_steps p1_coloured p0_cells p0_found u p1_puts p1_takes)) hP hD hS hA [3] [0, 1, 2, 4, 5, 6] [0, 1, 2, 6, 3, 4, 5] (n := 7) (k := 1) rfl (fun _ => rfl) rfl (by decide +kernel) (fun _ => rfl) (va_runS (As := [.ref (ad_p0 0), .int (0 : Int32)]) (rest := []) ⟨hx, hb, hml, hown, hts⟩ (c_J7_fill_53178 (l := l) (dC := dC) (dI := dI) (cI := cI) (cJ := cJ) (cZ := cZ) (sz := H.size) (h_p0 := (ad_p0 0)) (n_p0 := 16) (p0 := p0_out) hw) (va_cwS 2 hts gX0_solve_J7_fill_53178 rfl rfl rfl (by decide +kernel) ⟨Nat.le_of_ble_eq_true rfl, Nat.le_of_ble_eq_true rfl⟩) ⟨xPre_blind, xPre_at hK hPc hDc n1 n2⟩ rfl rfl hl.1 rfl (lv_room (Nat.le_of_ble_eq_true rfl)) dX0_solve_45 ⟨Nat.zero_le _, Nat.zero_le _⟩) (fun u H locs hw hP hD hS => ?_)
      obtain ⟨y51, rfl⟩ : ∃ z, z = u := ⟨_, rfl⟩
      try dsimp only at hw
      have hP : va_P (dC, dI) vwCl (wld_X0_solve cI cJ cZ h_p0 h_p1 ad_p0 ad_p1 p1_places (0 : Int32) p1_places p1_steps p1_coloured p0_cells p0_found y51 p1_puts p1_takes) H := hP
      have hD : va_D A (wld_X0_solve cI cJ cZ h_p0 h_p1 ad_p0 ad_p1 p1_places (0 : Int32) p1_places p1_steps p1_coloured p0_cells p0_found y51 p1_puts p1_takes) := hD
      refine lv_aload_n hx hb dX0_solve_48 rfl (lv_at hl 1 rfl) ?_
      refine va_get (D := (dC, dI)) (ci := 0) (v := .ref (ad_p0 1)) (C := RX0) (T := TX0) (N := 5) hx hb hts iX0 hown hK hP 0 rfl rfl 1 (by decide) (hts (.fieldLink RX0 15 "NetHouse$Balance" "cells" "[J") (by decide +kernel)) (fun _ h9 => h9) rfl dX0_solve_49 ?_
      refine lv_lconst (v := 0) hx hb dX0_solve_52 (by decide) ?_
      obtain ⟨hPc, hDc⟩ := x_sub (wc := (wld_J7_fill_d0a16 cI cJ cZ (ad_p0 1) 512 p0_cells)) hP hD [1] (n := 7) rfl rfl (by decide +kernel)
      refine x_callv (ws' := fun (u : (Nat → Int64)) => (wld_X0_solve cI cJ cZ h_p0 h_p1 ad_p0 ad_p1 p1_places (0 : Int32) p1_places p1_steps p1_coloured u p0_found y51 p1_puts p1_takes)) hP hD hS hA [1] [0, 2, 3, 4, 5, 6] [0, 6, 1, 2, 3, 4, 5] (n := 7) (k := 1) rfl (fun _ => rfl) rfl (by decide +kernel) (fun _ => rfl) (va_runS (As := [.ref (ad_p0 1), .long (0 : Int64)]) (rest := []) ⟨hx, hb, hml, hown, hts⟩ (c_J7_fill_d0a16 (l := l) (dC := dC) (dI := dI) (cI := cI) (cJ := cJ) (cZ := cZ) (sz := H.size) (h_p0 := (ad_p0 1)) (n_p0 := 512) (p0 := p0_cells) hw) (va_cwS 2 hts gX0_solve_J7_fill_d0a16 rfl rfl rfl (by decide +kernel) ⟨Nat.le_of_ble_eq_true rfl, Nat.le_of_ble_eq_true rfl⟩) ⟨xPre_blind, xPre_at hK hPc hDc n1 n2⟩ rfl rfl hl.1 rfl (lv_room (Nat.le_of_ble_eq_true rfl)) dX0_solve_53 ⟨Nat.zero_le _, Nat.zero_le _⟩) (fun u H locs hw hP hD hS => ?_)
      obtain ⟨y52, rfl⟩ : ∃ z, z = u := ⟨_, rfl⟩
      try dsimp only at hw
      have hP : va_P (dC, dI) vwCl (wld_X0_solve cI cJ cZ h_p0 h_p1 ad_p0 ad_p1 p1_places (0 : Int32) p1_places p1_steps p1_coloured y52 p0_found y51 p1_puts p1_takes) H := hP
      have hD : va_D A (wld_X0_solve cI cJ cZ h_p0 h_p1 ad_p0 ad_p1 p1_places (0 : Int32) p1_places p1_steps p1_coloured y52 p0_found y51 p1_puts p1_takes) := hD
      refine lv_iconst (v := 0) hx hb dX0_solve_56 (by decide) ?_
      refine lv_istore (lv' := [(4, .int (0 : Int32)), (3, .int p1_places), (0, .ref h_p0), (1, .ref h_p1), (2, .int a2)]) hx hb dX0_solve_57 hl (by decide) rfl (fun ls hl => ?_)
      obtain ⟨n53, hw⟩ := hw
      refine c_X0_solve_L59 (l := l) (z_p0_cells := y52) E0 ?_ n53 _ _ hw _ _ _ hP hD hS (lv_sub hl [2, 3, 4, 1, 0] rfl)
      · intro v54 s55 H locs ls hw hP hD hS hl
        have hP : va_P (dC, dI) vwCl (wld_X0_solve cI cJ cZ h_p0 h_p1 ad_p0 ad_p1 p1_places (0 : Int32) p1_places p1_steps p1_coloured s55 p0_found y51 p1_puts p1_takes) H := hP
        have hD : va_D A (wld_X0_solve cI cJ cZ h_p0 h_p1 ad_p0 ad_p1 p1_places (0 : Int32) p1_places p1_steps p1_coloured s55 p0_found y51 p1_puts p1_takes) := hD
        refine lv_iconst (v := 0) hx hb dX0_solve_144 (by decide) ?_
        refine lv_istore (lv' := [(4, .int (0 : Int32)), (0, .ref h_p0), (3, .int p1_places)]) hx hb dX0_solve_145 hl (by decide) rfl (fun ls hl => ?_)
        obtain ⟨n56, hw⟩ := hw
        refine c_X0_solve_L147 (l := l) (z_p0_cells := s55) (z_p0_out := y51) E0 ?_ n56 _ _ _ hw _ _ _ hP hD hS (lv_sub hl [1, 2, 0] rfl)
        · intro v57 s58 s59 H locs ls hw hP hD hS hl
          have hP : va_P (dC, dI) vwCl (wld_X0_solve cI cJ cZ h_p0 h_p1 ad_p0 ad_p1 p1_places (0 : Int32) p1_places p1_steps p1_coloured s58 p0_found s59 p1_puts p1_takes) H := hP
          have hD : va_D A (wld_X0_solve cI cJ cZ h_p0 h_p1 ad_p0 ad_p1 p1_places (0 : Int32) p1_places p1_steps p1_coloured s58 p0_found s59 p1_puts p1_takes) := hD
          refine lv_aload_n hx hb dX0_solve_170 rfl (lv_at hl 0 rfl) ?_
          obtain ⟨hPc, hDc⟩ := x_sub (wc := (wld_X0_keepRest cI cJ cZ h_p0 ad_p0 p1_places (0 : Int32) s58 p0_found s59)) hP hD [0, 1, 2, 3] (n := 7) rfl rfl (by decide +kernel)
          refine x_callv (ws' := fun (u : (Int32) × (Nat → Int32)) => (wld_X0_solve cI cJ cZ h_p0 h_p1 ad_p0 ad_p1 p1_places (u.1) p1_places p1_steps p1_coloured s58 (u.2) s59 p1_puts p1_takes)) hP hD hS hA [0, 1, 2, 3] [4, 5, 6] [3, 4, 5, 6, 0, 1, 2] (n := 7) (k := 4) rfl (fun _ => rfl) rfl (by decide +kernel) (fun _ => rfl) (va_runV (As := []) (rest := []) ⟨hx, hb, hml, hown, hts⟩ (c_X0_keepRest (l := l) (dC := dC) (dI := dI) (cI := cI) (cJ := cJ) (cZ := cZ) (sz := H.size) (h_p0 := h_p0) (ad_p0 := ad_p0) (p0_rows := p1_places) (p0_size := (0 : Int32)) (p0_cells := s58) (p0_found := p0_found) (p0_out := s59) hw) (cwV 0 hts gX0_solve_X0_keepRest rfl rfl rfl (by decide +kernel) ⟨Nat.le_of_ble_eq_true rfl, Nat.le_of_ble_eq_true rfl⟩) ⟨xPre_blind, va_recv hK hP (ci := 0) (q0 := 0) rfl rfl, xPre_at hK hPc hDc n1 n2⟩ rfl rfl hl.1 rfl (lv_room (Nat.le_of_ble_eq_true rfl)) dX0_solve_171 ⟨Nat.zero_le _, Nat.zero_le _⟩) (fun u H locs hw hP hD hS => ?_)
          obtain ⟨y60, y61⟩ := u
          try dsimp only at hw
          have hP : va_P (dC, dI) vwCl (wld_X0_solve cI cJ cZ h_p0 h_p1 ad_p0 ad_p1 p1_places y60 p1_places p1_steps p1_coloured s58 y61 s59 p1_puts p1_takes) H := hP
          have hD : va_D A (wld_X0_solve cI cJ cZ h_p0 h_p1 ad_p0 ad_p1 p1_places y60 p1_places p1_steps p1_coloured s58 y61 s59 p1_puts p1_takes) := hD
          refine lv_iconst (v := 1) hx hb dX0_solve_174 (by decide) ?_
          exact x_zret (w1 := fun (u : (Int32) × (Int32) × (Nat → Int64) × (Nat → Int32) × (Nat → Int32)) => (wld_X0_solve cI cJ cZ h_p0 h_p1 ad_p0 ad_p1 (u.1) (u.2.1) p1_places p1_steps p1_coloured (u.2.2.1) (u.2.2.2.1) (u.2.2.2.2) p1_puts p1_takes)) hx hb hr hlocks (by decide) (p1_places, y60, s58, y61, s59) hw hP hD hS dX0_solve_175
    · have hw := hw.2 c50
      refine lv_aload_n hx hb dX0_solve_28 rfl (lv_at hl 1 rfl) ?_
      refine va_get (D := (dC, dI)) (ci := 5) (v := .int p1_steps) (C := RX5) (T := TX5) (N := 14) hx hb hts iX5 hown hK hP 4 rfl rfl 12 (by decide) (hts (.fieldLink RX0 34 "NetHouse$Net" "steps" "I") (by decide +kernel)) (fun _ h9 => h9) rfl dX0_solve_29 ?_
      refine lv_goto (tgt := 39) hx hb dX0_solve_32 (by decide) ?_
      refine lv_istore_n (lv' := [(3, .int p1_steps), (0, .ref h_p0), (1, .ref h_p1), (2, .int a2)]) hx hb dX0_solve_39 rfl hl (by decide) rfl (fun ls hl => ?_)
      refine lv_aload_n hx hb dX0_solve_40 rfl (lv_at hl 1 rfl) ?_
      refine va_get (D := (dC, dI)) (ci := 0) (v := .ref (ad_p0 0)) (C := RX0) (T := TX0) (N := 5) hx hb hts iX0 hown hK hP 0 rfl rfl 0 (by decide) (hts (.fieldLink RX0 11 "NetHouse$Balance" "out" "[I") (by decide +kernel)) (fun _ h9 => h9) rfl dX0_solve_41 ?_
      refine lv_iconst (v := 0) hx hb dX0_solve_44 (by decide) ?_
      obtain ⟨hPc, hDc⟩ := x_sub (wc := (wld_J7_fill_53178 cI cJ cZ (ad_p0 0) 16 p0_out)) hP hD [3] (n := 7) rfl rfl (by decide +kernel)
      refine x_callv (ws' := fun (u : (Nat → Int32)) => (wld_X0_solve cI cJ cZ h_p0 h_p1 ad_p0 ad_p1 p1_places (0 : Int32) p1_places p1_steps p1_coloured p0_cells p0_found u p1_puts p1_takes)) hP hD hS hA [3] [0, 1, 2, 4, 5, 6] [0, 1, 2, 6, 3, 4, 5] (n := 7) (k := 1) rfl (fun _ => rfl) rfl (by decide +kernel) (fun _ => rfl) (va_runS (As := [.ref (ad_p0 0), .int (0 : Int32)]) (rest := []) ⟨hx, hb, hml, hown, hts⟩ (c_J7_fill_53178 (l := l) (dC := dC) (dI := dI) (cI := cI) (cJ := cJ) (cZ := cZ) (sz := H.size) (h_p0 := (ad_p0 0)) (n_p0 := 16) (p0 := p0_out) hw) (va_cwS 2 hts gX0_solve_J7_fill_53178 rfl rfl rfl (by decide +kernel) ⟨Nat.le_of_ble_eq_true rfl, Nat.le_of_ble_eq_true rfl⟩) ⟨xPre_blind, xPre_at hK hPc hDc n1 n2⟩ rfl rfl hl.1 rfl (lv_room (Nat.le_of_ble_eq_true rfl)) dX0_solve_45 ⟨Nat.zero_le _, Nat.zero_le _⟩) (fun u H locs hw hP hD hS => ?_)
      obtain ⟨y62, rfl⟩ : ∃ z, z = u := ⟨_, rfl⟩
      try dsimp only at hw
      have hP : va_P (dC, dI) vwCl (wld_X0_solve cI cJ cZ h_p0 h_p1 ad_p0 ad_p1 p1_places (0 : Int32) p1_places p1_steps p1_coloured p0_cells p0_found y62 p1_puts p1_takes) H := hP
      have hD : va_D A (wld_X0_solve cI cJ cZ h_p0 h_p1 ad_p0 ad_p1 p1_places (0 : Int32) p1_places p1_steps p1_coloured p0_cells p0_found y62 p1_puts p1_takes) := hD
      refine lv_aload_n hx hb dX0_solve_48 rfl (lv_at hl 1 rfl) ?_
      refine va_get (D := (dC, dI)) (ci := 0) (v := .ref (ad_p0 1)) (C := RX0) (T := TX0) (N := 5) hx hb hts iX0 hown hK hP 0 rfl rfl 1 (by decide) (hts (.fieldLink RX0 15 "NetHouse$Balance" "cells" "[J") (by decide +kernel)) (fun _ h9 => h9) rfl dX0_solve_49 ?_
      refine lv_lconst (v := 0) hx hb dX0_solve_52 (by decide) ?_
      obtain ⟨hPc, hDc⟩ := x_sub (wc := (wld_J7_fill_d0a16 cI cJ cZ (ad_p0 1) 512 p0_cells)) hP hD [1] (n := 7) rfl rfl (by decide +kernel)
      refine x_callv (ws' := fun (u : (Nat → Int64)) => (wld_X0_solve cI cJ cZ h_p0 h_p1 ad_p0 ad_p1 p1_places (0 : Int32) p1_places p1_steps p1_coloured u p0_found y62 p1_puts p1_takes)) hP hD hS hA [1] [0, 2, 3, 4, 5, 6] [0, 6, 1, 2, 3, 4, 5] (n := 7) (k := 1) rfl (fun _ => rfl) rfl (by decide +kernel) (fun _ => rfl) (va_runS (As := [.ref (ad_p0 1), .long (0 : Int64)]) (rest := []) ⟨hx, hb, hml, hown, hts⟩ (c_J7_fill_d0a16 (l := l) (dC := dC) (dI := dI) (cI := cI) (cJ := cJ) (cZ := cZ) (sz := H.size) (h_p0 := (ad_p0 1)) (n_p0 := 512) (p0 := p0_cells) hw) (va_cwS 2 hts gX0_solve_J7_fill_d0a16 rfl rfl rfl (by decide +kernel) ⟨Nat.le_of_ble_eq_true rfl, Nat.le_of_ble_eq_true rfl⟩) ⟨xPre_blind, xPre_at hK hPc hDc n1 n2⟩ rfl rfl hl.1 rfl (lv_room (Nat.le_of_ble_eq_true rfl)) dX0_solve_53 ⟨Nat.zero_le _, Nat.zero_le _⟩) (fun u H locs hw hP hD hS => ?_)
      obtain ⟨y63, rfl⟩ : ∃ z, z = u := ⟨_, rfl⟩
      try dsimp only at hw
      have hP : va_P (dC, dI) vwCl (wld_X0_solve cI cJ cZ h_p0 h_p1 ad_p0 ad_p1 p1_places (0 : Int32) p1_places p1_steps p1_coloured y63 p0_found y62 p1_puts p1_takes) H := hP
      have hD : va_D A (wld_X0_solve cI cJ cZ h_p0 h_p1 ad_p0 ad_p1 p1_places (0 : Int32) p1_places p1_steps p1_coloured y63 p0_found y62 p1_puts p1_takes) := hD
      refine lv_iconst (v := 0) hx hb dX0_solve_56 (by decide) ?_
      refine lv_istore (lv' := [(4, .int (0 : Int32)), (3, .int p1_steps), (0, .ref h_p0), (1, .ref h_p1), (2, .int a2)]) hx hb dX0_solve_57 hl (by decide) rfl (fun ls hl => ?_)
      obtain ⟨n64, hw⟩ := hw
      refine c_X0_solve_L59 (l := l) (z_p0_cells := y63) E0 ?_ n64 _ _ hw _ _ _ hP hD hS (lv_sub hl [2, 3, 4, 1, 0] rfl)
      · intro v65 s66 H locs ls hw hP hD hS hl
        have hP : va_P (dC, dI) vwCl (wld_X0_solve cI cJ cZ h_p0 h_p1 ad_p0 ad_p1 p1_places (0 : Int32) p1_places p1_steps p1_coloured s66 p0_found y62 p1_puts p1_takes) H := hP
        have hD : va_D A (wld_X0_solve cI cJ cZ h_p0 h_p1 ad_p0 ad_p1 p1_places (0 : Int32) p1_places p1_steps p1_coloured s66 p0_found y62 p1_puts p1_takes) := hD
        refine lv_iconst (v := 0) hx hb dX0_solve_144 (by decide) ?_
        refine lv_istore (lv' := [(4, .int (0 : Int32)), (0, .ref h_p0), (3, .int p1_steps)]) hx hb dX0_solve_145 hl (by decide) rfl (fun ls hl => ?_)
        obtain ⟨n67, hw⟩ := hw
        refine c_X0_solve_L147 (l := l) (z_p0_cells := s66) (z_p0_out := y62) E0 ?_ n67 _ _ _ hw _ _ _ hP hD hS (lv_sub hl [1, 2, 0] rfl)
        · intro v68 s69 s70 H locs ls hw hP hD hS hl
          have hP : va_P (dC, dI) vwCl (wld_X0_solve cI cJ cZ h_p0 h_p1 ad_p0 ad_p1 p1_places (0 : Int32) p1_places p1_steps p1_coloured s69 p0_found s70 p1_puts p1_takes) H := hP
          have hD : va_D A (wld_X0_solve cI cJ cZ h_p0 h_p1 ad_p0 ad_p1 p1_places (0 : Int32) p1_places p1_steps p1_coloured s69 p0_found s70 p1_puts p1_takes) := hD
          refine lv_aload_n hx hb dX0_solve_170 rfl (lv_at hl 0 rfl) ?_
          obtain ⟨hPc, hDc⟩ := x_sub (wc := (wld_X0_keepRest cI cJ cZ h_p0 ad_p0 p1_places (0 : Int32) s69 p0_found s70)) hP hD [0, 1, 2, 3] (n := 7) rfl rfl (by decide +kernel)
          refine x_callv (ws' := fun (u : (Int32) × (Nat → Int32)) => (wld_X0_solve cI cJ cZ h_p0 h_p1 ad_p0 ad_p1 p1_places (u.1) p1_places p1_steps p1_coloured s69 (u.2) s70 p1_puts p1_takes)) hP hD hS hA [0, 1, 2, 3] [4, 5, 6] [3, 4, 5, 6, 0, 1, 2] (n := 7) (k := 4) rfl (fun _ => rfl) rfl (by decide +kernel) (fun _ => rfl) (va_runV (As := []) (rest := []) ⟨hx, hb, hml, hown, hts⟩ (c_X0_keepRest (l := l) (dC := dC) (dI := dI) (cI := cI) (cJ := cJ) (cZ := cZ) (sz := H.size) (h_p0 := h_p0) (ad_p0 := ad_p0) (p0_rows := p1_places) (p0_size := (0 : Int32)) (p0_cells := s69) (p0_found := p0_found) (p0_out := s70) hw) (cwV 0 hts gX0_solve_X0_keepRest rfl rfl rfl (by decide +kernel) ⟨Nat.le_of_ble_eq_true rfl, Nat.le_of_ble_eq_true rfl⟩) ⟨xPre_blind, va_recv hK hP (ci := 0) (q0 := 0) rfl rfl, xPre_at hK hPc hDc n1 n2⟩ rfl rfl hl.1 rfl (lv_room (Nat.le_of_ble_eq_true rfl)) dX0_solve_171 ⟨Nat.zero_le _, Nat.zero_le _⟩) (fun u H locs hw hP hD hS => ?_)
          obtain ⟨y71, y72⟩ := u
          try dsimp only at hw
          have hP : va_P (dC, dI) vwCl (wld_X0_solve cI cJ cZ h_p0 h_p1 ad_p0 ad_p1 p1_places y71 p1_places p1_steps p1_coloured s69 y72 s70 p1_puts p1_takes) H := hP
          have hD : va_D A (wld_X0_solve cI cJ cZ h_p0 h_p1 ad_p0 ad_p1 p1_places y71 p1_places p1_steps p1_coloured s69 y72 s70 p1_puts p1_takes) := hD
          refine lv_iconst (v := 1) hx hb dX0_solve_174 (by decide) ?_
          exact x_zret (w1 := fun (u : (Int32) × (Int32) × (Nat → Int64) × (Nat → Int32) × (Nat → Int32)) => (wld_X0_solve cI cJ cZ h_p0 h_p1 ad_p0 ad_p1 (u.1) (u.2.1) p1_places p1_steps p1_coloured (u.2.2.1) (u.2.2.2.1) (u.2.2.2.2) p1_puts p1_takes)) hx hb hr hlocks (by decide) (p1_places, y71, s69, y72, s70) hw hP hD hS dX0_solve_175
abbrev wld_X1_refusal (cI cJ cZ : ClassId) (h_p0 : Nat) (ad_p0 : Nat → Nat) (ad_p0_all : Nat → Nat) (p0_made : Int32) (p0_turned : Int32) (p0_steps : Int32) (p0_all_width : Int32) (p0_all_size : Int32) : va_W := [(h_p0, .inr (1, [.ref (ad_p0 0), .ref (ad_p0 1), .ref (ad_p0 2), .ref (ad_p0 3), .ref (ad_p0 4), .ref (ad_p0 5), .ref (ad_p0 6), .ref (ad_p0 7), .int p0_made, .int p0_turned, .int p0_steps])), ((ad_p0 0), .inr (4, [.ref (ad_p0_all 0), .ref (ad_p0_all 1), .ref (ad_p0_all 2), .ref (ad_p0_all 3), .ref (ad_p0_all 4), .int p0_all_width, .int p0_all_size]))]
abbrev q_X1_refusal (dC : Nat → ClassId) (dI : Nat → Nat → Nat) (cI cJ cZ : ClassId) (h_p0 : Nat) (ad_p0 : Nat → Nat) (ad_p0_all : Nat → Nat) (p0_made : Int32) (p0_turned : Int32) (p0_steps : Int32) (p0_all_width : Int32) (p0_all_size : Int32) (post : Int32 → Prop) (A : Nat → Prop) : Array Value → State → Outcome → State → Prop := va_Qi (fun r (u : Unit) => post r ) (fun (u : Unit) t => xPost (dC, dI) A (wld_X1_refusal cI cJ cZ h_p0 ad_p0 ad_p0_all p0_made p0_turned p0_steps p0_all_width p0_all_size) t) A
def w_X1_refusal (p0_all_size : Int32) (p0_made : Int32) (a1 : Int32) (post : Int32 → Prop) : Prop :=
  (¬ p0_made = 0 →
    (a1 < 0 →
      (post (-2000000001 : Int32))) ∧
    (¬ a1 < 0 →
      (p0_all_size ≤ a1 →
        (post (-2000000001 : Int32))) ∧
      (¬ p0_all_size ≤ a1 →
        (post (0 : Int32))))) ∧
  (p0_made = 0 →
    (post (-2000000002 : Int32)))
set_option maxHeartbeats 4000000 in
set_option maxRecDepth 100000 in
theorem c_X1_refusal {l : Launch} {dC : Nat → ClassId} {dI : Nat → Nat → Nat} {sz : Nat} {cI cJ cZ : ClassId} {h_p0 : Nat} {ad_p0 : Nat → Nat} {ad_p0_all : Nat → Nat} {p0_made : Int32} {p0_turned : Int32} {p0_steps : Int32} {p0_all_width : Int32} {p0_all_size : Int32} {a1 : Int32} {post : Int32 → Prop} (hw : w_X1_refusal p0_all_size p0_made a1 post) : Met l yX1_refusal wsX1_refusal ({ frames := 0, cells := 0, slots := 0, locals := 0 }) (va_Pc [.ref h_p0, .int a1] (xPre (dC, dI) cI cJ cZ (wld_X1_refusal cI cJ cZ h_p0 ad_p0 ad_p0_all p0_made p0_turned p0_steps p0_all_width p0_all_size) sz)) (q_X1_refusal dC dI cI cJ cZ h_p0 ad_p0 ad_p0_all p0_made p0_turned p0_steps p0_all_width p0_all_size post (va_A (wld_X1_refusal cI cJ cZ h_p0 ad_p0 ad_p0_all p0_made p0_turned p0_steps p0_all_width p0_all_size) sz)) 0 0 (va_A (wld_X1_refusal cI cJ cZ h_p0 ad_p0 ad_p0_all p0_made p0_turned p0_steps p0_all_width p0_all_size) sz) := by
  refine x_met (cc := cX1_refusal) (maxL := 2) (ret := (some .int)) (own := RX1) (Qc := fun A => (q_X1_refusal dC dI cI cJ cZ h_p0 ad_p0 ad_p0_all p0_made p0_turned p0_steps p0_all_width p0_all_size post A)) (by decide) rfl rfl (Nat.le_of_ble_eq_true rfl) ?_
  intro p e s m args below meth c A ls E0 hP hD hS hl
  obtain ⟨hx, hb, hr, hml, hown, hts, hlocks, hK, hA, n1, n2⟩ := id E0
  have iX1 : ∀ w ∈ u_ws RX1 TX1 11, w ∈ wsX1_refusal := fun w h => List.mem_cons_of_mem _ (List.mem_append_left _ (List.mem_append_right _ h))
  have iX4 : ∀ w ∈ u_ws RX4 TX4 7, w ∈ wsX1_refusal := fun w h => List.mem_cons_of_mem _ (List.mem_append_right _ h)
  have hS0 := hS
  have hl : lv_has ls 2 [(0, .ref h_p0), (1, .int a1)] := hl
  unfold w_X1_refusal at hw
  obtain ⟨H, hH⟩ : ∃ H, H = s.heap := ⟨_, rfl⟩
  have hS : va_S A s.heap H [] := by rw [hH]; exact hS
  have hP : va_P (dC, dI) vwCl (wld_X1_refusal cI cJ cZ h_p0 ad_p0 ad_p0_all p0_made p0_turned p0_steps p0_all_width p0_all_size) H := by rw [hH]; exact hP
  suffices hG : W p l e ({ frames := 0, cells := 0, slots := 0, locals := 0 }) s m args below meth c H [] 0 0 (MQ below (q_X1_refusal dC dI cI cJ cZ h_p0 ad_p0 ad_p0_all p0_made p0_turned p0_steps p0_all_width p0_all_size post A) args s 0 0 A) (F0 m 0 ls []) by rw [hH] at hG; exact hG
  clear hH
  refine lv_aload_n hx hb dX1_refusal_0 rfl (lv_at hl 0 rfl) ?_
  refine va_get (D := (dC, dI)) (ci := 1) (v := .int p0_made) (C := RX1) (T := TX1) (N := 11) hx hb hts iX1 hown hK hP 0 rfl rfl 8 (by decide) (hts (.fieldLink RX1 47 "NetHouse$Field" "made" "Z") (by decide +kernel)) (fun _ h9 => h9) rfl dX1_refusal_1 ?_
  refine lv_if_ne (tgt := 10) hx hb dX1_refusal_4 (by decide) (fun c1 => ?_) (fun c2 => ?_)
  · have hw := hw.1 c1
    refine lv_iload_n hx hb dX1_refusal_10 rfl (lv_at hl 1 rfl) ?_
    refine lv_if_lt (tgt := 29) hx hb dX1_refusal_11 (by decide) (fun c3 => ?_) (fun c4 => ?_)
    · have hw := hw.1 c3
      refine lv_ldc (v := -2000000001) hx hb hown (hts (.constant RX1 62 (-2000000001)) (by decide +kernel)) dX1_refusal_29 ?_
      exact x_iret (w1 := fun (u : Unit) => (wld_X1_refusal cI cJ cZ h_p0 ad_p0 ad_p0_all p0_made p0_turned p0_steps p0_all_width p0_all_size)) hx hb hr hlocks () hw hP hD hS dX1_refusal_31
    · have hw := hw.2 c4
      refine lv_iload_n hx hb dX1_refusal_14 rfl (lv_at hl 1 rfl) ?_
      refine lv_aload_n hx hb dX1_refusal_15 rfl (lv_at hl 0 rfl) ?_
      refine va_get (D := (dC, dI)) (ci := 1) (v := .ref (ad_p0 0)) (C := RX1) (T := TX1) (N := 11) hx hb hts iX1 hown hK hP 0 rfl rfl 0 (by decide) (hts (.fieldLink RX1 14 "NetHouse$Field" "all" "LNetHouse$Markings;") (by decide +kernel)) (fun _ h9 => h9) rfl dX1_refusal_16 ?_
      refine va_get (D := (dC, dI)) (ci := 4) (v := .int p0_all_size) (C := RX4) (T := TX4) (N := 7) hx hb hts iX4 hown hK hP 1 rfl rfl 6 (by decide) (hts (.fieldLink RX1 59 "NetHouse$Markings" "size" "I") (by decide +kernel)) (fun _ h9 => h9) rfl dX1_refusal_19 ?_
      refine lv_icmp_ge (tgt := 29) hx hb dX1_refusal_22 (by decide) (fun c5 => ?_) (fun c6 => ?_)
      · have hw := hw.1 c5
        refine lv_ldc (v := -2000000001) hx hb hown (hts (.constant RX1 62 (-2000000001)) (by decide +kernel)) dX1_refusal_29 ?_
        exact x_iret (w1 := fun (u : Unit) => (wld_X1_refusal cI cJ cZ h_p0 ad_p0 ad_p0_all p0_made p0_turned p0_steps p0_all_width p0_all_size)) hx hb hr hlocks () hw hP hD hS dX1_refusal_31
      · have hw := hw.2 c6
        refine lv_iconst (v := 0) hx hb dX1_refusal_25 (by decide) ?_
        refine lv_goto (tgt := 31) hx hb dX1_refusal_26 (by decide) ?_
        exact x_iret (w1 := fun (u : Unit) => (wld_X1_refusal cI cJ cZ h_p0 ad_p0 ad_p0_all p0_made p0_turned p0_steps p0_all_width p0_all_size)) hx hb hr hlocks () hw hP hD hS dX1_refusal_31
  · have hw := hw.2 c2
    refine lv_ldc (v := -2000000002) hx hb hown (hts (.constant RX1 58 (-2000000002)) (by decide +kernel)) dX1_refusal_7 ?_
    exact x_iret (w1 := fun (u : Unit) => (wld_X1_refusal cI cJ cZ h_p0 ad_p0 ad_p0_all p0_made p0_turned p0_steps p0_all_width p0_all_size)) hx hb hr hlocks () hw hP hD hS dX1_refusal_9
abbrev wld_X3_become (cI cJ cZ : ClassId) (h_p0 : Nat) (h_p1 : Nat) (ad_p0 : Nat → Nat) (ad_p1 : Nat → Nat) (p0_many : Nat → Int32) (p1_many : Nat → Int32) : va_W := [(h_p0, .inr (3, [.ref (ad_p0 0), .ref (ad_p0 1)])), ((ad_p0 0), .inl (cI, 16, .inl p0_many)), (h_p1, .inr (3, [.ref (ad_p1 0), .ref (ad_p1 1)])), ((ad_p1 0), .inl (cI, 16, .inl p1_many))]
abbrev q_X3_become (dC : Nat → ClassId) (dI : Nat → Nat → Nat) (cI cJ cZ : ClassId) (h_p0 : Nat) (h_p1 : Nat) (ad_p0 : Nat → Nat) (ad_p1 : Nat → Nat) (p0_many : Nat → Int32) (p1_many : Nat → Int32) (post : (Nat → Int32) → Prop) (A : Nat → Prop) : Array Value → State → Outcome → State → Prop := va_Qv (fun (u : (Nat → Int32)) => post u) (fun (u : (Nat → Int32)) t => xPost (dC, dI) A (wld_X3_become cI cJ cZ h_p0 h_p1 ad_p0 ad_p1 u p1_many) t) A
def w_X3_become (p0_many : Nat → Int32) (p1_many : Nat → Int32) (post : (Nat → Int32) → Prop) : Prop :=
  (¬ (0 : Int32) < 0 ∧ ¬ (0 : Int32) < 0 ∧ ¬ (16 : Int32) < 0 ∧ (0 : Int32).toNatClampNeg + (16 : Int32).toNatClampNeg ≤ 16 ∧ (0 : Int32).toNatClampNeg + (16 : Int32).toNatClampNeg ≤ 16) ∧
  (post (va_cpy p1_many p0_many (0 : Int32).toNatClampNeg (0 : Int32).toNatClampNeg (16 : Int32).toNatClampNeg))
set_option maxHeartbeats 4000000 in
set_option maxRecDepth 100000 in
theorem c_X3_become {l : Launch} {dC : Nat → ClassId} {dI : Nat → Nat → Nat} {sz : Nat} {cI cJ cZ : ClassId} {h_p0 : Nat} {h_p1 : Nat} {ad_p0 : Nat → Nat} {ad_p1 : Nat → Nat} {p0_many : Nat → Int32} {p1_many : Nat → Int32}  {post : (Nat → Int32) → Prop} (hw : w_X3_become p0_many p1_many post) : Met l yX3_become wsX3_become ({ frames := 1, cells := 0, slots := 0, locals := 30 }) (va_Pc [.ref h_p0, .ref h_p1] (xPre (dC, dI) cI cJ cZ (wld_X3_become cI cJ cZ h_p0 h_p1 ad_p0 ad_p1 p0_many p1_many) sz)) (q_X3_become dC dI cI cJ cZ h_p0 h_p1 ad_p0 ad_p1 p0_many p1_many post (va_A (wld_X3_become cI cJ cZ h_p0 h_p1 ad_p0 ad_p1 p0_many p1_many) sz)) 0 0 (va_A (wld_X3_become cI cJ cZ h_p0 h_p1 ad_p0 ad_p1 p0_many p1_many) sz) := by
  refine x_met (cc := cX3_become) (maxL := 2) (ret := none) (own := RX3) (Qc := fun A => (q_X3_become dC dI cI cJ cZ h_p0 h_p1 ad_p0 ad_p1 p0_many p1_many post A)) (by decide) rfl rfl (Nat.le_of_ble_eq_true rfl) ?_
  intro p e s m args below meth c A ls E0 hP hD hS hl
  obtain ⟨hx, hb, hr, hml, hown, hts, hlocks, hK, hA, n1, n2⟩ := id E0
  have iX3 : ∀ w ∈ u_ws RX3 TX3 2, w ∈ wsX3_become := fun w h => List.mem_cons_of_mem _ (List.mem_append_right _ h)
  have hS0 := hS
  have hl : lv_has ls 2 [(0, .ref h_p0), (1, .ref h_p1)] := hl
  unfold w_X3_become at hw
  obtain ⟨H, hH⟩ : ∃ H, H = s.heap := ⟨_, rfl⟩
  have hS : va_S A s.heap H [] := by rw [hH]; exact hS
  have hP : va_P (dC, dI) vwCl (wld_X3_become cI cJ cZ h_p0 h_p1 ad_p0 ad_p1 p0_many p1_many) H := by rw [hH]; exact hP
  suffices hG : W p l e ({ frames := 1, cells := 0, slots := 0, locals := 30 }) s m args below meth c H [] 0 0 (MQ below (q_X3_become dC dI cI cJ cZ h_p0 h_p1 ad_p0 ad_p1 p0_many p1_many post A) args s 0 0 A) (F0 m 0 ls []) by rw [hH] at hG; exact hG
  clear hH
  refine lv_aload_n hx hb dX3_become_0 rfl (lv_at hl 1 rfl) ?_
  refine va_get (D := (dC, dI)) (ci := 3) (v := .ref (ad_p1 0)) (C := RX3) (T := TX3) (N := 2) hx hb hts iX3 hown hK hP 2 rfl rfl 0 (by decide) (hts (.fieldLink RX3 9 "NetHouse$Holding" "many" "[I") (by decide +kernel)) (fun _ h9 => h9) rfl dX3_become_1 ?_
  refine lv_iconst (v := 0) hx hb dX3_become_4 (by decide) ?_
  refine lv_aload_n hx hb dX3_become_5 rfl (lv_at hl 0 rfl) ?_
  refine va_get (D := (dC, dI)) (ci := 3) (v := .ref (ad_p0 0)) (C := RX3) (T := TX3) (N := 2) hx hb hts iX3 hown hK hP 0 rfl rfl 0 (by decide) (hts (.fieldLink RX3 9 "NetHouse$Holding" "many" "[I") (by decide +kernel)) (fun _ h9 => h9) rfl dX3_become_6 ?_
  refine lv_iconst (v := 0) hx hb dX3_become_9 (by decide) ?_
  refine lv_bipush (v := 16) hx hb dX3_become_10 (by decide) ?_
  have h9 := hw.1
  have hw := hw.2
  refine va_copyi hx hb (by rw [hml]; exact hl.1.symm) hown (hts (.methodLink RX3 19 arraycopyName) (by decide +kernel)) (hts (.native arraycopyName) (by decide +kernel)) (hts (.static arraycopyName) (by decide +kernel)) (hts (.initialized "java/lang/System") (by decide +kernel)) hK hP hD hS 3 1 0 0 rfl rfl rfl rfl rfl h9.1 h9.2.1 h9.2.2.1 h9.2.2.2.1 h9.2.2.2.2 (fun _ _ => rfl) (Nat.le_of_ble_eq_true rfl) (Nat.le_of_ble_eq_true rfl) dX3_become_12 (fun H locs hP hD hS => ?_)
  have hP : va_P (dC, dI) vwCl (wld_X3_become cI cJ cZ h_p0 h_p1 ad_p0 ad_p1 (va_cpy p1_many p0_many (0 : Int32).toNatClampNeg (0 : Int32).toNatClampNeg (16 : Int32).toNatClampNeg) p1_many) H := hP
  have hD : va_D A (wld_X3_become cI cJ cZ h_p0 h_p1 ad_p0 ad_p1 (va_cpy p1_many p0_many (0 : Int32).toNatClampNeg (0 : Int32).toNatClampNeg (16 : Int32).toNatClampNeg) p1_many) := hD
  exact x_vret (w1 := fun (u : (Nat → Int32)) => (wld_X3_become cI cJ cZ h_p0 h_p1 ad_p0 ad_p1 u p1_many)) hx hb hr hlocks ((va_cpy p1_many p0_many (0 : Int32).toNatClampNeg (0 : Int32).toNatClampNeg (16 : Int32).toNatClampNeg)) hw hP hD hS dX3_become_15
abbrev wld_X4_bucketOf (cI cJ cZ : ClassId) (h_p0 : Nat) (h_p1 : Nat) (ad_p0 : Nat → Nat) (ad_p1 : Nat → Nat) (p0_width : Int32) (p0_size : Int32) (p1_many : Nat → Int32) : va_W := [(h_p0, .inr (4, [.ref (ad_p0 0), .ref (ad_p0 1), .ref (ad_p0 2), .ref (ad_p0 3), .ref (ad_p0 4), .int p0_width, .int p0_size])), (h_p1, .inr (3, [.ref (ad_p1 0), .ref (ad_p1 1)])), ((ad_p1 0), .inl (cI, 16, .inl p1_many))]
abbrev q_X4_bucketOf (dC : Nat → ClassId) (dI : Nat → Nat → Nat) (cI cJ cZ : ClassId) (h_p0 : Nat) (h_p1 : Nat) (ad_p0 : Nat → Nat) (ad_p1 : Nat → Nat) (p0_width : Int32) (p0_size : Int32) (p1_many : Nat → Int32) (post : Int32 → Prop) (A : Nat → Prop) : Array Value → State → Outcome → State → Prop := va_Qi (fun r (u : Unit) => post r ) (fun (u : Unit) t => xPost (dC, dI) A (wld_X4_bucketOf cI cJ cZ h_p0 h_p1 ad_p0 ad_p1 p0_width p0_size p1_many) t) A
def w_X4_bucketOf_L4b (p0_width : Int32) (p1_many : Nat → Int32) (post : Int32 → Prop) (K : (Int32) → (Int32) → Prop) (rec : (Int32) → (Int32) → Prop) (v2 : Int32) (v3 : Int32) : Prop :=
    (p0_width ≤ v3 →
      K v2 v3) ∧
    (¬ p0_width ≤ v3 →
      vp_in v3 16 ∧
      ∀ x3 : Int32, x3 = ((v2 ^^^ (p1_many v3.toNatClampNeg)) * (-1640531535 : Int32)) →
      ∀ x4 : Int32, x4 = (x3 ^^^ (x3.toUInt32 >>> ((15 : Int32).toUInt32 &&& Int32.toUInt32 31)).toInt32) →
      ∀ x5 : Int32, x5 = v3 + (1 : Int32) →
      rec x4 x5)
def w_X4_bucketOf_L4 (p0_width : Int32) (p1_many : Nat → Int32) (post : Int32 → Prop) (K : (Int32) → (Int32) → Prop) : Nat → (Int32) → (Int32) → Prop
  | 0, _, _ => False
  | n + 1, v2, v3 => w_X4_bucketOf_L4b p0_width p1_many post K (w_X4_bucketOf_L4 p0_width p1_many post K n) v2 v3
def w_X4_bucketOf (p0_width : Int32) (p1_many : Nat → Int32) (post : Int32 → Prop) : Prop :=
  ∃ n : Nat, w_X4_bucketOf_L4 p0_width p1_many post (fun v7 v8 =>
      (post ((v7 * (-1640531535 : Int32)).toUInt32 >>> ((22 : Int32).toUInt32 &&& Int32.toUInt32 31)).toInt32)) n (0 : Int32) (0 : Int32)
set_option maxHeartbeats 4000000 in
set_option maxRecDepth 100000 in
theorem c_X4_bucketOf_L4 {p : Program} {l : Launch} {e : Env} {s : State} {m : MethodId} {args : Array Value} {below : List Frame} {meth : Method} {c : Code} {dC : Nat → ClassId} {dI : Nat → Nat → Nat} {A : Nat → Prop} {cI cJ cZ : ClassId} {h_p0 : Nat} {h_p1 : Nat} {ad_p0 : Nat → Nat} {ad_p1 : Nat → Nat} {p0_width : Int32} {p0_size : Int32} {p1_many : Nat → Int32}  {post : Int32 → Prop} {K : (Int32) → (Int32) → Prop} (E0 : xEnv p s m args meth c cX4_bucketOf (some .int) 4 RX4 wsX4_bucketOf (dC, dI) cI cJ cZ A) (hk : ∀ (v2 : Int32) (v3 : Int32) (H : Heap) (locs : List Loc) (ls : Array Slot), K v2 v3 → va_P (dC, dI) vwCl (wld_X4_bucketOf cI cJ cZ h_p0 h_p1 ad_p0 ad_p1 p0_width p0_size p1_many) H → va_D A (wld_X4_bucketOf cI cJ cZ h_p0 h_p1 ad_p0 ad_p1 p0_width p0_size p1_many) → va_S A s.heap H locs → lv_has ls 4 [(2, .int v2)] → W p l e ({ frames := 0, cells := 0, slots := 0, locals := 0 }) s m args below meth c H locs 0 0 (MQ below (q_X4_bucketOf dC dI cI cJ cZ h_p0 h_p1 ad_p0 ad_p1 p0_width p0_size p1_many post A) args s 0 0 A) (F0 m 37 ls [])) : ∀ (n : Nat) (v2 : Int32) (v3 : Int32), w_X4_bucketOf_L4 p0_width p1_many post K n v2 v3 → ∀ (H : Heap) (locs : List Loc) (ls : Array Slot), va_P (dC, dI) vwCl (wld_X4_bucketOf cI cJ cZ h_p0 h_p1 ad_p0 ad_p1 p0_width p0_size p1_many) H → va_D A (wld_X4_bucketOf cI cJ cZ h_p0 h_p1 ad_p0 ad_p1 p0_width p0_size p1_many) → va_S A s.heap H locs → lv_has ls 4 [(0, .ref h_p0), (1, .ref h_p1), (2, .int v2), (3, .int v3)] → W p l e ({ frames := 0, cells := 0, slots := 0, locals := 0 }) s m args below meth c H locs 0 0 (MQ below (q_X4_bucketOf dC dI cI cJ cZ h_p0 h_p1 ad_p0 ad_p1 p0_width p0_size p1_many post A) args s 0 0 A) (F0 m 4 ls []) := by
  obtain ⟨hx, hb, hr, hml, hown, hts, hlocks, hK, hA, n1, n2⟩ := id E0
  have iX3 : ∀ w ∈ u_ws RX3 TX3 2, w ∈ wsX4_bucketOf := fun w h => List.mem_cons_of_mem _ (List.mem_append_right _ h)
  have iX4 : ∀ w ∈ u_ws RX4 TX4 7, w ∈ wsX4_bucketOf := fun w h => List.mem_cons_of_mem _ (List.mem_append_left _ (List.mem_append_right _ h))
  intro n
  induction n with
  | zero => intro v2 v3 hw; exact hw.elim
  | succ n ih =>
    intro v2 v3 hw H locs ls hP hD hS hl
    have hw : w_X4_bucketOf_L4b p0_width p1_many post K (w_X4_bucketOf_L4 p0_width p1_many post K n) v2 v3 := hw
    unfold w_X4_bucketOf_L4b at hw
    refine lv_iload_n hx hb dX4_bucketOf_4 rfl (lv_at hl 3 rfl) ?_
    refine lv_aload_n hx hb dX4_bucketOf_5 rfl (lv_at hl 0 rfl) ?_
    refine va_get (D := (dC, dI)) (ci := 4) (v := .int p0_width) (C := RX4) (T := TX4) (N := 7) hx hb hts iX4 hown hK hP 0 rfl rfl 5 (by decide) (hts (.fieldLink RX4 15 "NetHouse$Markings" "width" "I") (by decide +kernel)) (fun _ h9 => h9) rfl dX4_bucketOf_6 ?_
    refine lv_icmp_ge (tgt := 37) hx hb dX4_bucketOf_9 (by decide) (fun c1 => ?_) (fun c2 => ?_)
    · have hw := hw.1 c1
      exact hk _ _ _ _ _ hw hP hD hS (lv_sub hl [2] rfl)
    · have hw := hw.2 c2
      refine lv_iload_n hx hb dX4_bucketOf_12 rfl (lv_at hl 2 rfl) ?_
      refine lv_aload_n hx hb dX4_bucketOf_13 rfl (lv_at hl 1 rfl) ?_
      refine va_get (D := (dC, dI)) (ci := 3) (v := .ref (ad_p1 0)) (C := RX3) (T := TX3) (N := 2) hx hb hts iX3 hown hK hP 1 rfl rfl 0 (by decide) (hts (.fieldLink RX4 49 "NetHouse$Holding" "many" "[I") (by decide +kernel)) (fun _ h9 => h9) rfl dX4_bucketOf_14 ?_
      refine lv_iload_n hx hb dX4_bucketOf_17 rfl (lv_at hl 3 rfl) ?_
      refine va_iald hx hb hK hP 2 0 rfl rfl hw.1 dX4_bucketOf_18 ?_
      have hw := hw.2
      refine lv_ixor hx hb dX4_bucketOf_19 ?_
      refine lv_ldc (v := -1640531535) hx hb hown (hts (.constant RX4 54 (-1640531535)) (by decide +kernel)) dX4_bucketOf_20 ?_
      refine lv_imul hx hb dX4_bucketOf_22 ?_
      refine lv_topi (fun x3 ex3 => ?_)
      have hw := hw x3 ex3
      refine lv_istore_n (lv' := [(2, .int x3), (0, .ref h_p0), (1, .ref h_p1), (3, .int v3)]) hx hb dX4_bucketOf_23 rfl hl (by decide) rfl (fun ls hl => ?_)
      refine lv_iload_n hx hb dX4_bucketOf_24 rfl (lv_at hl 0 rfl) ?_
      refine lv_iload_n hx hb dX4_bucketOf_25 rfl (lv_at hl 0 rfl) ?_
      refine lv_bipush (v := 15) hx hb dX4_bucketOf_26 (by decide) ?_
      refine lv_iushr hx hb dX4_bucketOf_28 rfl ?_
      refine lv_ixor hx hb dX4_bucketOf_29 ?_
      refine lv_topi (fun x4 ex4 => ?_)
      have hw := hw x4 ex4
      refine lv_istore_n (lv' := [(2, .int x4), (0, .ref h_p0), (1, .ref h_p1), (3, .int v3)]) hx hb dX4_bucketOf_30 rfl hl (by decide) rfl (fun ls hl => ?_)
      obtain ⟨x5, ex5⟩ : ∃ y : Int32, y = v3 + (1 : Int32) := ⟨_, rfl⟩
      have hw := hw x5 ex5
      refine lv_iinc (v := x5) (lv' := [(3, .int x5), (2, .int x4), (0, .ref h_p0), (1, .ref h_p1)]) hx hb dX4_bucketOf_31 hl (k := 3) rfl (by rw [ex5]; rfl) (by decide) rfl (fun ls hl => ?_)
      refine lv_goto (tgt := 4) hx hb dX4_bucketOf_34 (by decide) ?_
      exact ih _ _ hw _ _ _ hP hD hS (lv_sub hl [2, 3, 1, 0] rfl)
set_option maxHeartbeats 4000000 in
set_option maxRecDepth 100000 in
theorem c_X4_bucketOf {l : Launch} {dC : Nat → ClassId} {dI : Nat → Nat → Nat} {sz : Nat} {cI cJ cZ : ClassId} {h_p0 : Nat} {h_p1 : Nat} {ad_p0 : Nat → Nat} {ad_p1 : Nat → Nat} {p0_width : Int32} {p0_size : Int32} {p1_many : Nat → Int32}  {post : Int32 → Prop} (hw : w_X4_bucketOf p0_width p1_many post) : Met l yX4_bucketOf wsX4_bucketOf ({ frames := 0, cells := 0, slots := 0, locals := 0 }) (va_Pc [.ref h_p0, .ref h_p1] (xPre (dC, dI) cI cJ cZ (wld_X4_bucketOf cI cJ cZ h_p0 h_p1 ad_p0 ad_p1 p0_width p0_size p1_many) sz)) (q_X4_bucketOf dC dI cI cJ cZ h_p0 h_p1 ad_p0 ad_p1 p0_width p0_size p1_many post (va_A (wld_X4_bucketOf cI cJ cZ h_p0 h_p1 ad_p0 ad_p1 p0_width p0_size p1_many) sz)) 0 0 (va_A (wld_X4_bucketOf cI cJ cZ h_p0 h_p1 ad_p0 ad_p1 p0_width p0_size p1_many) sz) := by
  refine x_met (cc := cX4_bucketOf) (maxL := 4) (ret := (some .int)) (own := RX4) (Qc := fun A => (q_X4_bucketOf dC dI cI cJ cZ h_p0 h_p1 ad_p0 ad_p1 p0_width p0_size p1_many post A)) (by decide) rfl rfl (Nat.le_of_ble_eq_true rfl) ?_
  intro p e s m args below meth c A ls E0 hP hD hS hl
  obtain ⟨hx, hb, hr, hml, hown, hts, hlocks, hK, hA, n1, n2⟩ := id E0
  have iX3 : ∀ w ∈ u_ws RX3 TX3 2, w ∈ wsX4_bucketOf := fun w h => List.mem_cons_of_mem _ (List.mem_append_right _ h)
  have iX4 : ∀ w ∈ u_ws RX4 TX4 7, w ∈ wsX4_bucketOf := fun w h => List.mem_cons_of_mem _ (List.mem_append_left _ (List.mem_append_right _ h))
  have hS0 := hS
  have hl : lv_has ls 4 [(0, .ref h_p0), (1, .ref h_p1)] := hl
  unfold w_X4_bucketOf at hw
  obtain ⟨H, hH⟩ : ∃ H, H = s.heap := ⟨_, rfl⟩
  have hS : va_S A s.heap H [] := by rw [hH]; exact hS
  have hP : va_P (dC, dI) vwCl (wld_X4_bucketOf cI cJ cZ h_p0 h_p1 ad_p0 ad_p1 p0_width p0_size p1_many) H := by rw [hH]; exact hP
  suffices hG : W p l e ({ frames := 0, cells := 0, slots := 0, locals := 0 }) s m args below meth c H [] 0 0 (MQ below (q_X4_bucketOf dC dI cI cJ cZ h_p0 h_p1 ad_p0 ad_p1 p0_width p0_size p1_many post A) args s 0 0 A) (F0 m 0 ls []) by rw [hH] at hG; exact hG
  clear hH
  refine lv_iconst (v := 0) hx hb dX4_bucketOf_0 (by decide) ?_
  refine lv_istore_n (lv' := [(2, .int (0 : Int32)), (0, .ref h_p0), (1, .ref h_p1)]) hx hb dX4_bucketOf_1 rfl hl (by decide) rfl (fun ls hl => ?_)
  refine lv_iconst (v := 0) hx hb dX4_bucketOf_2 (by decide) ?_
  refine lv_istore_n (lv' := [(3, .int (0 : Int32)), (2, .int (0 : Int32)), (0, .ref h_p0), (1, .ref h_p1)]) hx hb dX4_bucketOf_3 rfl hl (by decide) rfl (fun ls hl => ?_)
  obtain ⟨n6, hw⟩ := hw
  refine c_X4_bucketOf_L4 (l := l)  E0 ?_ n6 _ _ hw _ _ _ hP hD hS (lv_sub hl [2, 3, 1, 0] rfl)
  · intro v7 v8 H locs ls hw hP hD hS hl
    have hP : va_P (dC, dI) vwCl (wld_X4_bucketOf cI cJ cZ h_p0 h_p1 ad_p0 ad_p1 p0_width p0_size p1_many) H := hP
    have hD : va_D A (wld_X4_bucketOf cI cJ cZ h_p0 h_p1 ad_p0 ad_p1 p0_width p0_size p1_many) := hD
    refine lv_iload_n hx hb dX4_bucketOf_37 rfl (lv_at hl 0 rfl) ?_
    refine lv_ldc (v := -1640531535) hx hb hown (hts (.constant RX4 54 (-1640531535)) (by decide +kernel)) dX4_bucketOf_38 ?_
    refine lv_imul hx hb dX4_bucketOf_40 ?_
    refine lv_bipush (v := 22) hx hb dX4_bucketOf_41 (by decide) ?_
    refine lv_iushr hx hb dX4_bucketOf_43 rfl ?_
    exact x_iret (w1 := fun (u : Unit) => (wld_X4_bucketOf cI cJ cZ h_p0 h_p1 ad_p0 ad_p1 p0_width p0_size p1_many)) hx hb hr hlocks () hw hP hD hS dX4_bucketOf_44
abbrev wld_X4_add (cI cJ cZ : ClassId) (h_p0 : Nat) (h_p1 : Nat) (ad_p0 : Nat → Nat) (ad_p1 : Nat → Nat) (n_p0 : Nat) (p0_width : Int32) (p0_size : Int32) (p0_by : Nat → Int32) (p0_cells : Nat → Int32) (p0_former : Nat → Int32) (p0_heads : Nat → Int32) (p0_links : Nat → Int32) (p1_many : Nat → Int32) : va_W := [(h_p0, .inr (4, [.ref (ad_p0 0), .ref (ad_p0 1), .ref (ad_p0 2), .ref (ad_p0 3), .ref (ad_p0 4), .int p0_width, .int p0_size])), ((ad_p0 2), .inl (cI, n_p0, .inl p0_by)), ((ad_p0 0), .inl (cI, (n_p0 * 16), .inl p0_cells)), ((ad_p0 1), .inl (cI, n_p0, .inl p0_former)), ((ad_p0 4), .inl (cI, 1024, .inl p0_heads)), ((ad_p0 3), .inl (cI, n_p0, .inl p0_links)), (h_p1, .inr (3, [.ref (ad_p1 0), .ref (ad_p1 1)])), ((ad_p1 0), .inl (cI, 16, .inl p1_many))]
abbrev q_X4_add (dC : Nat → ClassId) (dI : Nat → Nat → Nat) (cI cJ cZ : ClassId) (h_p0 : Nat) (h_p1 : Nat) (ad_p0 : Nat → Nat) (ad_p1 : Nat → Nat) (n_p0 : Nat) (p0_width : Int32) (p0_size : Int32) (p0_by : Nat → Int32) (p0_cells : Nat → Int32) (p0_former : Nat → Int32) (p0_heads : Nat → Int32) (p0_links : Nat → Int32) (p1_many : Nat → Int32) (post : (Int32) → (Nat → Int32) → (Nat → Int32) → (Nat → Int32) → (Nat → Int32) → (Nat → Int32) → Prop) (A : Nat → Prop) : Array Value → State → Outcome → State → Prop := va_Qv (fun (u : (Int32) × (Nat → Int32) × (Nat → Int32) × (Nat → Int32) × (Nat → Int32) × (Nat → Int32)) => post (u.1) (u.2.1) (u.2.2.1) (u.2.2.2.1) (u.2.2.2.2.1) (u.2.2.2.2.2)) (fun (u : (Int32) × (Nat → Int32) × (Nat → Int32) × (Nat → Int32) × (Nat → Int32) × (Nat → Int32)) t => xPost (dC, dI) A (wld_X4_add cI cJ cZ h_p0 h_p1 ad_p0 ad_p1 n_p0 p0_width (u.1) (u.2.1) (u.2.2.1) (u.2.2.2.1) (u.2.2.2.2.1) (u.2.2.2.2.2) p1_many) t) A
def w_X4_add (n_p0 : Nat) (p0_size : Int32) (p0_width : Int32) (p0_by : Nat → Int32) (p0_cells : Nat → Int32) (p0_former : Nat → Int32) (p0_heads : Nat → Int32) (p0_links : Nat → Int32) (p1_many : Nat → Int32) (a2 : Int32) (a3 : Int32) (post : (Int32) → (Nat → Int32) → (Nat → Int32) → (Nat → Int32) → (Nat → Int32) → (Nat → Int32) → Prop) : Prop :=
  (¬ (0 : Int32) < 0 ∧ ¬ (p0_size * p0_width) < 0 ∧ ¬ p0_width < 0 ∧ (0 : Int32).toNatClampNeg + p0_width.toNatClampNeg ≤ 16 ∧ (p0_size * p0_width).toNatClampNeg + p0_width.toNatClampNeg ≤ (n_p0 * 16)) ∧
  vp_in p0_size n_p0 ∧
  vp_in p0_size n_p0 ∧
  w_X4_bucketOf p0_width p1_many (fun r1 =>
  vp_in r1 1024 ∧
  vp_in p0_size n_p0 ∧
  vp_in r1 1024 ∧
  ∀ x2 : Int32, x2 = (p0_size + (1 : Int32)) →
  (post x2 (upd p0_by p0_size.toNatClampNeg a3) (va_cpy p1_many p0_cells (0 : Int32).toNatClampNeg (p0_size * p0_width).toNatClampNeg p0_width.toNatClampNeg) (upd p0_former p0_size.toNatClampNeg a2) (upd p0_heads r1.toNatClampNeg p0_size) (upd p0_links p0_size.toNatClampNeg (p0_heads r1.toNatClampNeg))))
set_option maxHeartbeats 4000000 in
set_option maxRecDepth 100000 in
theorem c_X4_add {l : Launch} {dC : Nat → ClassId} {dI : Nat → Nat → Nat} {sz : Nat} {cI cJ cZ : ClassId} {h_p0 : Nat} {h_p1 : Nat} {ad_p0 : Nat → Nat} {ad_p1 : Nat → Nat} {n_p0 : Nat} {p0_width : Int32} {p0_size : Int32} {p0_by : Nat → Int32} {p0_cells : Nat → Int32} {p0_former : Nat → Int32} {p0_heads : Nat → Int32} {p0_links : Nat → Int32} {p1_many : Nat → Int32} {a2 : Int32} {a3 : Int32} {post : (Int32) → (Nat → Int32) → (Nat → Int32) → (Nat → Int32) → (Nat → Int32) → (Nat → Int32) → Prop} (hw : w_X4_add n_p0 p0_size p0_width p0_by p0_cells p0_former p0_heads p0_links p1_many a2 a3 post) : Met l yX4_add wsX4_add ({ frames := 1, cells := 0, slots := 0, locals := 30 }) (va_Pc [.ref h_p0, .ref h_p1, .int a2, .int a3] (xPre (dC, dI) cI cJ cZ (wld_X4_add cI cJ cZ h_p0 h_p1 ad_p0 ad_p1 n_p0 p0_width p0_size p0_by p0_cells p0_former p0_heads p0_links p1_many) sz)) (q_X4_add dC dI cI cJ cZ h_p0 h_p1 ad_p0 ad_p1 n_p0 p0_width p0_size p0_by p0_cells p0_former p0_heads p0_links p1_many post (va_A (wld_X4_add cI cJ cZ h_p0 h_p1 ad_p0 ad_p1 n_p0 p0_width p0_size p0_by p0_cells p0_former p0_heads p0_links p1_many) sz)) 0 0 (va_A (wld_X4_add cI cJ cZ h_p0 h_p1 ad_p0 ad_p1 n_p0 p0_width p0_size p0_by p0_cells p0_former p0_heads p0_links p1_many) sz) := by
  refine x_met (cc := cX4_add) (maxL := 5) (ret := none) (own := RX4) (Qc := fun A => (q_X4_add dC dI cI cJ cZ h_p0 h_p1 ad_p0 ad_p1 n_p0 p0_width p0_size p0_by p0_cells p0_former p0_heads p0_links p1_many post A)) (by decide) rfl rfl (Nat.le_of_ble_eq_true rfl) ?_
  intro p e s m args below meth c A ls E0 hP hD hS hl
  obtain ⟨hx, hb, hr, hml, hown, hts, hlocks, hK, hA, n1, n2⟩ := id E0
  have iX3 : ∀ w ∈ u_ws RX3 TX3 2, w ∈ wsX4_add := fun w h => List.mem_cons_of_mem _ (List.mem_append_left _ (List.mem_append_right _ h))
  have iX4 : ∀ w ∈ u_ws RX4 TX4 7, w ∈ wsX4_add := fun w h => List.mem_cons_of_mem _ (List.mem_append_right _ h)
  have hS0 := hS
  have hl : lv_has ls 5 [(0, .ref h_p0), (1, .ref h_p1), (2, .int a2), (3, .int a3)] := hl
  unfold w_X4_add at hw
  obtain ⟨H, hH⟩ : ∃ H, H = s.heap := ⟨_, rfl⟩
  have hS : va_S A s.heap H [] := by rw [hH]; exact hS
  have hP : va_P (dC, dI) vwCl (wld_X4_add cI cJ cZ h_p0 h_p1 ad_p0 ad_p1 n_p0 p0_width p0_size p0_by p0_cells p0_former p0_heads p0_links p1_many) H := by rw [hH]; exact hP
  suffices hG : W p l e ({ frames := 1, cells := 0, slots := 0, locals := 30 }) s m args below meth c H [] 0 0 (MQ below (q_X4_add dC dI cI cJ cZ h_p0 h_p1 ad_p0 ad_p1 n_p0 p0_width p0_size p0_by p0_cells p0_former p0_heads p0_links p1_many post A) args s 0 0 A) (F0 m 0 ls []) by rw [hH] at hG; exact hG
  clear hH
  refine lv_aload_n hx hb dX4_add_0 rfl (lv_at hl 1 rfl) ?_
  refine va_get (D := (dC, dI)) (ci := 3) (v := .ref (ad_p1 0)) (C := RX3) (T := TX3) (N := 2) hx hb hts iX3 hown hK hP 6 rfl rfl 0 (by decide) (hts (.fieldLink RX4 49 "NetHouse$Holding" "many" "[I") (by decide +kernel)) (fun _ h9 => h9) rfl dX4_add_1 ?_
  refine lv_iconst (v := 0) hx hb dX4_add_4 (by decide) ?_
  refine lv_aload_n hx hb dX4_add_5 rfl (lv_at hl 0 rfl) ?_
  refine va_get (D := (dC, dI)) (ci := 4) (v := .ref (ad_p0 0)) (C := RX4) (T := TX4) (N := 7) hx hb hts iX4 hown hK hP 0 rfl rfl 0 (by decide) (hts (.fieldLink RX4 31 "NetHouse$Markings" "cells" "[I") (by decide +kernel)) (fun _ h9 => h9) rfl dX4_add_6 ?_
  refine lv_aload_n hx hb dX4_add_9 rfl (lv_at hl 0 rfl) ?_
  refine va_get (D := (dC, dI)) (ci := 4) (v := .int p0_size) (C := RX4) (T := TX4) (N := 7) hx hb hts iX4 hown hK hP 0 rfl rfl 6 (by decide) (hts (.fieldLink RX4 19 "NetHouse$Markings" "size" "I") (by decide +kernel)) (fun _ h9 => h9) rfl dX4_add_10 ?_
  refine lv_aload_n hx hb dX4_add_13 rfl (lv_at hl 0 rfl) ?_
  refine va_get (D := (dC, dI)) (ci := 4) (v := .int p0_width) (C := RX4) (T := TX4) (N := 7) hx hb hts iX4 hown hK hP 0 rfl rfl 5 (by decide) (hts (.fieldLink RX4 15 "NetHouse$Markings" "width" "I") (by decide +kernel)) (fun _ h9 => h9) rfl dX4_add_14 ?_
  refine lv_imul hx hb dX4_add_17 ?_
  refine lv_aload_n hx hb dX4_add_18 rfl (lv_at hl 0 rfl) ?_
  refine va_get (D := (dC, dI)) (ci := 4) (v := .int p0_width) (C := RX4) (T := TX4) (N := 7) hx hb hts iX4 hown hK hP 0 rfl rfl 5 (by decide) (hts (.fieldLink RX4 15 "NetHouse$Markings" "width" "I") (by decide +kernel)) (fun _ h9 => h9) rfl dX4_add_19 ?_
  have h9 := hw.1
  have hw := hw.2
  refine va_copyi hx hb (by rw [hml]; exact hl.1.symm) hown (hts (.methodLink RX4 63 arraycopyName) (by decide +kernel)) (hts (.native arraycopyName) (by decide +kernel)) (hts (.static arraycopyName) (by decide +kernel)) (hts (.initialized "java/lang/System") (by decide +kernel)) hK hP hD hS 7 2 0 0 rfl rfl rfl rfl rfl h9.1 h9.2.1 h9.2.2.1 h9.2.2.2.1 h9.2.2.2.2 (fun _ _ => rfl) (Nat.le_of_ble_eq_true rfl) (Nat.le_of_ble_eq_true rfl) dX4_add_22 (fun H locs hP hD hS => ?_)
  have hP : va_P (dC, dI) vwCl (wld_X4_add cI cJ cZ h_p0 h_p1 ad_p0 ad_p1 n_p0 p0_width p0_size p0_by (va_cpy p1_many p0_cells (0 : Int32).toNatClampNeg (p0_size * p0_width).toNatClampNeg p0_width.toNatClampNeg) p0_former p0_heads p0_links p1_many) H := hP
  have hD : va_D A (wld_X4_add cI cJ cZ h_p0 h_p1 ad_p0 ad_p1 n_p0 p0_width p0_size p0_by (va_cpy p1_many p0_cells (0 : Int32).toNatClampNeg (p0_size * p0_width).toNatClampNeg p0_width.toNatClampNeg) p0_former p0_heads p0_links p1_many) := hD
  refine lv_aload_n hx hb dX4_add_25 rfl (lv_at hl 0 rfl) ?_
  refine va_get (D := (dC, dI)) (ci := 4) (v := .ref (ad_p0 1)) (C := RX4) (T := TX4) (N := 7) hx hb hts iX4 hown hK hP 0 rfl rfl 1 (by decide) (hts (.fieldLink RX4 34 "NetHouse$Markings" "former" "[I") (by decide +kernel)) (fun _ h9 => h9) rfl dX4_add_26 ?_
  refine lv_aload_n hx hb dX4_add_29 rfl (lv_at hl 0 rfl) ?_
  refine va_get (D := (dC, dI)) (ci := 4) (v := .int p0_size) (C := RX4) (T := TX4) (N := 7) hx hb hts iX4 hown hK hP 0 rfl rfl 6 (by decide) (hts (.fieldLink RX4 19 "NetHouse$Markings" "size" "I") (by decide +kernel)) (fun _ h9 => h9) rfl dX4_add_30 ?_
  refine lv_iload_n hx hb dX4_add_33 rfl (lv_at hl 2 rfl) ?_
  refine va_iast hx hb hK hP hD hS 3 0 rfl rfl hw.1 dX4_add_34 (fun H locs hP hD hS => ?_)
  have hw := hw.2
  have hP : va_P (dC, dI) vwCl (wld_X4_add cI cJ cZ h_p0 h_p1 ad_p0 ad_p1 n_p0 p0_width p0_size p0_by (va_cpy p1_many p0_cells (0 : Int32).toNatClampNeg (p0_size * p0_width).toNatClampNeg p0_width.toNatClampNeg) (upd p0_former p0_size.toNatClampNeg a2) p0_heads p0_links p1_many) H := hP
  have hD : va_D A (wld_X4_add cI cJ cZ h_p0 h_p1 ad_p0 ad_p1 n_p0 p0_width p0_size p0_by (va_cpy p1_many p0_cells (0 : Int32).toNatClampNeg (p0_size * p0_width).toNatClampNeg p0_width.toNatClampNeg) (upd p0_former p0_size.toNatClampNeg a2) p0_heads p0_links p1_many) := hD
  refine lv_aload_n hx hb dX4_add_35 rfl (lv_at hl 0 rfl) ?_
  refine va_get (D := (dC, dI)) (ci := 4) (v := .ref (ad_p0 2)) (C := RX4) (T := TX4) (N := 7) hx hb hts iX4 hown hK hP 0 rfl rfl 2 (by decide) (hts (.fieldLink RX4 37 "NetHouse$Markings" "by" "[I") (by decide +kernel)) (fun _ h9 => h9) rfl dX4_add_36 ?_
  refine lv_aload_n hx hb dX4_add_39 rfl (lv_at hl 0 rfl) ?_
  refine va_get (D := (dC, dI)) (ci := 4) (v := .int p0_size) (C := RX4) (T := TX4) (N := 7) hx hb hts iX4 hown hK hP 0 rfl rfl 6 (by decide) (hts (.fieldLink RX4 19 "NetHouse$Markings" "size" "I") (by decide +kernel)) (fun _ h9 => h9) rfl dX4_add_40 ?_
  refine lv_iload_n hx hb dX4_add_43 rfl (lv_at hl 3 rfl) ?_
  refine va_iast hx hb hK hP hD hS 1 0 rfl rfl hw.1 dX4_add_44 (fun H locs hP hD hS => ?_)
  have hw := hw.2
  have hP : va_P (dC, dI) vwCl (wld_X4_add cI cJ cZ h_p0 h_p1 ad_p0 ad_p1 n_p0 p0_width p0_size (upd p0_by p0_size.toNatClampNeg a3) (va_cpy p1_many p0_cells (0 : Int32).toNatClampNeg (p0_size * p0_width).toNatClampNeg p0_width.toNatClampNeg) (upd p0_former p0_size.toNatClampNeg a2) p0_heads p0_links p1_many) H := hP
  have hD : va_D A (wld_X4_add cI cJ cZ h_p0 h_p1 ad_p0 ad_p1 n_p0 p0_width p0_size (upd p0_by p0_size.toNatClampNeg a3) (va_cpy p1_many p0_cells (0 : Int32).toNatClampNeg (p0_size * p0_width).toNatClampNeg p0_width.toNatClampNeg) (upd p0_former p0_size.toNatClampNeg a2) p0_heads p0_links p1_many) := hD
  refine lv_aload_n hx hb dX4_add_45 rfl (lv_at hl 0 rfl) ?_
  refine lv_aload_n hx hb dX4_add_46 rfl (lv_at hl 1 rfl) ?_
  obtain ⟨hPc, hDc⟩ := x_sub (wc := (wld_X4_bucketOf cI cJ cZ h_p0 h_p1 ad_p0 ad_p1 p0_width p0_size p1_many)) hP hD [0, 6, 7] (n := 8) rfl rfl (by decide +kernel)
  refine x_calli (ws' := fun (u : Unit) => (wld_X4_add cI cJ cZ h_p0 h_p1 ad_p0 ad_p1 n_p0 p0_width p0_size (upd p0_by p0_size.toNatClampNeg a3) (va_cpy p1_many p0_cells (0 : Int32).toNatClampNeg (p0_size * p0_width).toNatClampNeg p0_width.toNatClampNeg) (upd p0_former p0_size.toNatClampNeg a2) p0_heads p0_links p1_many)) hP hD hS hA [0, 6, 7] [1, 2, 3, 4, 5] [5, 0, 1, 2, 3, 4, 6, 7] (n := 8) (k := 3) rfl (fun _ => rfl) rfl (by decide +kernel) (fun _ => rfl) (va_runV (As := [.ref h_p1]) (rest := []) ⟨hx, hb, hml, hown, hts⟩ (c_X4_bucketOf (l := l) (dC := dC) (dI := dI) (cI := cI) (cJ := cJ) (cZ := cZ) (sz := H.size) (h_p0 := h_p0) (h_p1 := h_p1) (ad_p0 := ad_p0) (ad_p1 := ad_p1) (p0_width := p0_width) (p0_size := p0_size) (p1_many := p1_many) hw) (cwV 1 hts gX4_add_X4_bucketOf rfl rfl rfl (by decide +kernel) ⟨Nat.le_of_ble_eq_true rfl, Nat.le_of_ble_eq_true rfl⟩) ⟨xPre_blind, va_recv hK hP (ci := 4) (q0 := 0) rfl rfl, xPre_at hK hPc hDc n1 n2⟩ rfl rfl hl.1 rfl (lv_room (Nat.le_of_ble_eq_true rfl)) dX4_add_47 ⟨Nat.zero_le _, Nat.zero_le _⟩) (fun r1 u H locs hw hP hD hS => ?_)
  try dsimp only at hw
  have hP : va_P (dC, dI) vwCl (wld_X4_add cI cJ cZ h_p0 h_p1 ad_p0 ad_p1 n_p0 p0_width p0_size (upd p0_by p0_size.toNatClampNeg a3) (va_cpy p1_many p0_cells (0 : Int32).toNatClampNeg (p0_size * p0_width).toNatClampNeg p0_width.toNatClampNeg) (upd p0_former p0_size.toNatClampNeg a2) p0_heads p0_links p1_many) H := hP
  have hD : va_D A (wld_X4_add cI cJ cZ h_p0 h_p1 ad_p0 ad_p1 n_p0 p0_width p0_size (upd p0_by p0_size.toNatClampNeg a3) (va_cpy p1_many p0_cells (0 : Int32).toNatClampNeg (p0_size * p0_width).toNatClampNeg p0_width.toNatClampNeg) (upd p0_former p0_size.toNatClampNeg a2) p0_heads p0_links p1_many) := hD
  refine lv_istore (lv' := [(4, .int r1), (0, .ref h_p0), (1, .ref h_p1), (2, .int a2), (3, .int a3)]) hx hb dX4_add_50 hl (by decide) rfl (fun ls hl => ?_)
  refine lv_aload_n hx hb dX4_add_52 rfl (lv_at hl 1 rfl) ?_
  refine va_get (D := (dC, dI)) (ci := 4) (v := .ref (ad_p0 3)) (C := RX4) (T := TX4) (N := 7) hx hb hts iX4 hown hK hP 0 rfl rfl 3 (by decide) (hts (.fieldLink RX4 40 "NetHouse$Markings" "links" "[I") (by decide +kernel)) (fun _ h9 => h9) rfl dX4_add_53 ?_
  refine lv_aload_n hx hb dX4_add_56 rfl (lv_at hl 1 rfl) ?_
  refine va_get (D := (dC, dI)) (ci := 4) (v := .int p0_size) (C := RX4) (T := TX4) (N := 7) hx hb hts iX4 hown hK hP 0 rfl rfl 6 (by decide) (hts (.fieldLink RX4 19 "NetHouse$Markings" "size" "I") (by decide +kernel)) (fun _ h9 => h9) rfl dX4_add_57 ?_
  refine lv_aload_n hx hb dX4_add_60 rfl (lv_at hl 1 rfl) ?_
  refine va_get (D := (dC, dI)) (ci := 4) (v := .ref (ad_p0 4)) (C := RX4) (T := TX4) (N := 7) hx hb hts iX4 hown hK hP 0 rfl rfl 4 (by decide) (hts (.fieldLink RX4 11 "NetHouse$Markings" "heads" "[I") (by decide +kernel)) (fun _ h9 => h9) rfl dX4_add_61 ?_
  refine lv_iload hx hb dX4_add_64 (lv_at hl 0 rfl) ?_
  refine va_iald hx hb hK hP 4 0 rfl rfl hw.1 dX4_add_66 ?_
  have hw := hw.2
  refine va_iast hx hb hK hP hD hS 5 0 rfl rfl hw.1 dX4_add_67 (fun H locs hP hD hS => ?_)
  have hw := hw.2
  have hP : va_P (dC, dI) vwCl (wld_X4_add cI cJ cZ h_p0 h_p1 ad_p0 ad_p1 n_p0 p0_width p0_size (upd p0_by p0_size.toNatClampNeg a3) (va_cpy p1_many p0_cells (0 : Int32).toNatClampNeg (p0_size * p0_width).toNatClampNeg p0_width.toNatClampNeg) (upd p0_former p0_size.toNatClampNeg a2) p0_heads (upd p0_links p0_size.toNatClampNeg (p0_heads r1.toNatClampNeg)) p1_many) H := hP
  have hD : va_D A (wld_X4_add cI cJ cZ h_p0 h_p1 ad_p0 ad_p1 n_p0 p0_width p0_size (upd p0_by p0_size.toNatClampNeg a3) (va_cpy p1_many p0_cells (0 : Int32).toNatClampNeg (p0_size * p0_width).toNatClampNeg p0_width.toNatClampNeg) (upd p0_former p0_size.toNatClampNeg a2) p0_heads (upd p0_links p0_size.toNatClampNeg (p0_heads r1.toNatClampNeg)) p1_many) := hD
  refine lv_aload_n hx hb dX4_add_68 rfl (lv_at hl 1 rfl) ?_
  refine va_get (D := (dC, dI)) (ci := 4) (v := .ref (ad_p0 4)) (C := RX4) (T := TX4) (N := 7) hx hb hts iX4 hown hK hP 0 rfl rfl 4 (by decide) (hts (.fieldLink RX4 11 "NetHouse$Markings" "heads" "[I") (by decide +kernel)) (fun _ h9 => h9) rfl dX4_add_69 ?_
  refine lv_iload hx hb dX4_add_72 (lv_at hl 0 rfl) ?_
  refine lv_aload_n hx hb dX4_add_74 rfl (lv_at hl 1 rfl) ?_
  refine va_get (D := (dC, dI)) (ci := 4) (v := .int p0_size) (C := RX4) (T := TX4) (N := 7) hx hb hts iX4 hown hK hP 0 rfl rfl 6 (by decide) (hts (.fieldLink RX4 19 "NetHouse$Markings" "size" "I") (by decide +kernel)) (fun _ h9 => h9) rfl dX4_add_75 ?_
  refine va_iast hx hb hK hP hD hS 4 0 rfl rfl hw.1 dX4_add_78 (fun H locs hP hD hS => ?_)
  have hw := hw.2
  have hP : va_P (dC, dI) vwCl (wld_X4_add cI cJ cZ h_p0 h_p1 ad_p0 ad_p1 n_p0 p0_width p0_size (upd p0_by p0_size.toNatClampNeg a3) (va_cpy p1_many p0_cells (0 : Int32).toNatClampNeg (p0_size * p0_width).toNatClampNeg p0_width.toNatClampNeg) (upd p0_former p0_size.toNatClampNeg a2) (upd p0_heads r1.toNatClampNeg p0_size) (upd p0_links p0_size.toNatClampNeg (p0_heads r1.toNatClampNeg)) p1_many) H := hP
  have hD : va_D A (wld_X4_add cI cJ cZ h_p0 h_p1 ad_p0 ad_p1 n_p0 p0_width p0_size (upd p0_by p0_size.toNatClampNeg a3) (va_cpy p1_many p0_cells (0 : Int32).toNatClampNeg (p0_size * p0_width).toNatClampNeg p0_width.toNatClampNeg) (upd p0_former p0_size.toNatClampNeg a2) (upd p0_heads r1.toNatClampNeg p0_size) (upd p0_links p0_size.toNatClampNeg (p0_heads r1.toNatClampNeg)) p1_many) := hD
  refine lv_aload_n hx hb dX4_add_79 rfl (lv_at hl 1 rfl) ?_
  refine lv_dup hx hb dX4_add_80 rfl ?_
  refine va_get (D := (dC, dI)) (ci := 4) (v := .int p0_size) (C := RX4) (T := TX4) (N := 7) hx hb hts iX4 hown hK hP 0 rfl rfl 6 (by decide) (hts (.fieldLink RX4 19 "NetHouse$Markings" "size" "I") (by decide +kernel)) (fun _ h9 => h9) rfl dX4_add_81 ?_
  refine lv_iconst (v := 1) hx hb dX4_add_84 (by decide) ?_
  refine lv_iadd hx hb dX4_add_85 ?_
  refine lv_topi (fun x2 ex2 => ?_)
  have hw := hw x2 ex2
  refine va_put (D := (dC, dI)) (ci := 4) (v := .int x2) (ty := .int) (C := RX4) (T := TX4) (N := 7) hx hb hts iX4 tyX4 tyX4_ok nmX4 hown hK hP hD hS 0 rfl rfl 6 (by decide) (hts (.fieldLink RX4 19 "NetHouse$Markings" "size" "I") (by decide +kernel)) (fun _ h9 => h9) rfl (by decide +kernel) rfl rfl (Nat.le_of_ble_eq_true rfl) dX4_add_86 (fun H locs hP hD hS => ?_)
  have hP : va_P (dC, dI) vwCl (wld_X4_add cI cJ cZ h_p0 h_p1 ad_p0 ad_p1 n_p0 p0_width x2 (upd p0_by p0_size.toNatClampNeg a3) (va_cpy p1_many p0_cells (0 : Int32).toNatClampNeg (p0_size * p0_width).toNatClampNeg p0_width.toNatClampNeg) (upd p0_former p0_size.toNatClampNeg a2) (upd p0_heads r1.toNatClampNeg p0_size) (upd p0_links p0_size.toNatClampNeg (p0_heads r1.toNatClampNeg)) p1_many) H := hP
  have hD : va_D A (wld_X4_add cI cJ cZ h_p0 h_p1 ad_p0 ad_p1 n_p0 p0_width x2 (upd p0_by p0_size.toNatClampNeg a3) (va_cpy p1_many p0_cells (0 : Int32).toNatClampNeg (p0_size * p0_width).toNatClampNeg p0_width.toNatClampNeg) (upd p0_former p0_size.toNatClampNeg a2) (upd p0_heads r1.toNatClampNeg p0_size) (upd p0_links p0_size.toNatClampNeg (p0_heads r1.toNatClampNeg)) p1_many) := hD
  exact x_vret (w1 := fun (u : (Int32) × (Nat → Int32) × (Nat → Int32) × (Nat → Int32) × (Nat → Int32) × (Nat → Int32)) => (wld_X4_add cI cJ cZ h_p0 h_p1 ad_p0 ad_p1 n_p0 p0_width (u.1) (u.2.1) (u.2.2.1) (u.2.2.2.1) (u.2.2.2.2.1) (u.2.2.2.2.2) p1_many)) hx hb hr hlocks (x2, (upd p0_by p0_size.toNatClampNeg a3), (va_cpy p1_many p0_cells (0 : Int32).toNatClampNeg (p0_size * p0_width).toNatClampNeg p0_width.toNatClampNeg), (upd p0_former p0_size.toNatClampNeg a2), (upd p0_heads r1.toNatClampNeg p0_size), (upd p0_links p0_size.toNatClampNeg (p0_heads r1.toNatClampNeg))) hw hP hD hS dX4_add_89
abbrev wld_X4_isSame (cI cJ cZ : ClassId) (h_p0 : Nat) (h_p2 : Nat) (ad_p0 : Nat → Nat) (ad_p2 : Nat → Nat) (n_p0 : Nat) (p0_width : Int32) (p0_size : Int32) (p0_cells : Nat → Int32) (p2_many : Nat → Int32) : va_W := [(h_p0, .inr (4, [.ref (ad_p0 0), .ref (ad_p0 1), .ref (ad_p0 2), .ref (ad_p0 3), .ref (ad_p0 4), .int p0_width, .int p0_size])), ((ad_p0 0), .inl (cI, (n_p0 * 16), .inl p0_cells)), (h_p2, .inr (3, [.ref (ad_p2 0), .ref (ad_p2 1)])), ((ad_p2 0), .inl (cI, 16, .inl p2_many))]
abbrev q_X4_isSame (dC : Nat → ClassId) (dI : Nat → Nat → Nat) (cI cJ cZ : ClassId) (h_p0 : Nat) (h_p2 : Nat) (ad_p0 : Nat → Nat) (ad_p2 : Nat → Nat) (n_p0 : Nat) (p0_width : Int32) (p0_size : Int32) (p0_cells : Nat → Int32) (p2_many : Nat → Int32) (post : Int32 → Prop) (A : Nat → Prop) : Array Value → State → Outcome → State → Prop := va_Qi (fun r (u : Unit) => post r ) (fun (u : Unit) t => xPost (dC, dI) A (wld_X4_isSame cI cJ cZ h_p0 h_p2 ad_p0 ad_p2 n_p0 p0_width p0_size p0_cells p2_many) t) A
def w_X4_isSame_L2b (n_p0 : Nat) (v1 : Int32) (p0_width : Int32) (p0_cells : Nat → Int32) (p2_many : Nat → Int32) (post : Int32 → Prop) (K : (Int32) → Prop) (rec : (Int32) → Prop) (v3 : Int32) : Prop :=
    (p0_width ≤ v3 →
      K v3) ∧
    (¬ p0_width ≤ v3 →
      vp_in ((v1 * p0_width) + v3) (n_p0 * 16) ∧
      vp_in v3 16 ∧
      ((p0_cells ((v1 * p0_width) + v3).toNatClampNeg) = (p2_many v3.toNatClampNeg) →
        ∀ x5 : Int32, x5 = v3 + (1 : Int32) →
        rec x5) ∧
      (¬ (p0_cells ((v1 * p0_width) + v3).toNatClampNeg) = (p2_many v3.toNatClampNeg) →
        (post (0 : Int32))))
def w_X4_isSame_L2 (n_p0 : Nat) (v1 : Int32) (p0_width : Int32) (p0_cells : Nat → Int32) (p2_many : Nat → Int32) (post : Int32 → Prop) (K : (Int32) → Prop) : Nat → (Int32) → Prop
  | 0, _ => False
  | n + 1, v3 => w_X4_isSame_L2b n_p0 v1 p0_width p0_cells p2_many post K (w_X4_isSame_L2 n_p0 v1 p0_width p0_cells p2_many post K n) v3
def w_X4_isSame (n_p0 : Nat) (p0_width : Int32) (p0_cells : Nat → Int32) (p2_many : Nat → Int32) (a1 : Int32) (post : Int32 → Prop) : Prop :=
  ∃ n : Nat, w_X4_isSame_L2 n_p0 a1 p0_width p0_cells p2_many post (fun v7 =>
      (post (1 : Int32))) n (0 : Int32)
set_option maxHeartbeats 4000000 in
set_option maxRecDepth 100000 in
theorem c_X4_isSame_L2 {p : Program} {l : Launch} {e : Env} {s : State} {m : MethodId} {args : Array Value} {below : List Frame} {meth : Method} {c : Code} {dC : Nat → ClassId} {dI : Nat → Nat → Nat} {A : Nat → Prop} {cI cJ cZ : ClassId} {h_p0 : Nat} {h_p2 : Nat} {ad_p0 : Nat → Nat} {ad_p2 : Nat → Nat} {n_p0 : Nat} {p0_width : Int32} {p0_size : Int32} {p0_cells : Nat → Int32} {p2_many : Nat → Int32} {v1 : Int32}  {post : Int32 → Prop} {K : (Int32) → Prop} (E0 : xEnv p s m args meth c cX4_isSame (some .boolean) 4 RX4 wsX4_isSame (dC, dI) cI cJ cZ A) (hk : ∀ (v3 : Int32) (H : Heap) (locs : List Loc) (ls : Array Slot), K v3 → va_P (dC, dI) vwCl (wld_X4_isSame cI cJ cZ h_p0 h_p2 ad_p0 ad_p2 n_p0 p0_width p0_size p0_cells p2_many) H → va_D A (wld_X4_isSame cI cJ cZ h_p0 h_p2 ad_p0 ad_p2 n_p0 p0_width p0_size p0_cells p2_many) → va_S A s.heap H locs → lv_has ls 4 [] → W p l e ({ frames := 0, cells := 0, slots := 0, locals := 0 }) s m args below meth c H locs 0 0 (MQ below (q_X4_isSame dC dI cI cJ cZ h_p0 h_p2 ad_p0 ad_p2 n_p0 p0_width p0_size p0_cells p2_many post A) args s 0 0 A) (F0 m 40 ls [])) : ∀ (n : Nat) (v3 : Int32), w_X4_isSame_L2 n_p0 v1 p0_width p0_cells p2_many post K n v3 → ∀ (H : Heap) (locs : List Loc) (ls : Array Slot), va_P (dC, dI) vwCl (wld_X4_isSame cI cJ cZ h_p0 h_p2 ad_p0 ad_p2 n_p0 p0_width p0_size p0_cells p2_many) H → va_D A (wld_X4_isSame cI cJ cZ h_p0 h_p2 ad_p0 ad_p2 n_p0 p0_width p0_size p0_cells p2_many) → va_S A s.heap H locs → lv_has ls 4 [(0, .ref h_p0), (1, .int v1), (2, .ref h_p2), (3, .int v3)] → W p l e ({ frames := 0, cells := 0, slots := 0, locals := 0 }) s m args below meth c H locs 0 0 (MQ below (q_X4_isSame dC dI cI cJ cZ h_p0 h_p2 ad_p0 ad_p2 n_p0 p0_width p0_size p0_cells p2_many post A) args s 0 0 A) (F0 m 2 ls []) := by
  obtain ⟨hx, hb, hr, hml, hown, hts, hlocks, hK, hA, n1, n2⟩ := id E0
  have iX3 : ∀ w ∈ u_ws RX3 TX3 2, w ∈ wsX4_isSame := fun w h => List.mem_cons_of_mem _ (List.mem_append_right _ h)
  have iX4 : ∀ w ∈ u_ws RX4 TX4 7, w ∈ wsX4_isSame := fun w h => List.mem_cons_of_mem _ (List.mem_append_left _ (List.mem_append_right _ h))
  intro n
  induction n with
  | zero => intro v3 hw; exact hw.elim
  | succ n ih =>
    intro v3 hw H locs ls hP hD hS hl
    have hw : w_X4_isSame_L2b n_p0 v1 p0_width p0_cells p2_many post K (w_X4_isSame_L2 n_p0 v1 p0_width p0_cells p2_many post K n) v3 := hw
    unfold w_X4_isSame_L2b at hw
    refine lv_iload_n hx hb dX4_isSame_2 rfl (lv_at hl 3 rfl) ?_
    refine lv_aload_n hx hb dX4_isSame_3 rfl (lv_at hl 0 rfl) ?_
    refine va_get (D := (dC, dI)) (ci := 4) (v := .int p0_width) (C := RX4) (T := TX4) (N := 7) hx hb hts iX4 hown hK hP 0 rfl rfl 5 (by decide) (hts (.fieldLink RX4 15 "NetHouse$Markings" "width" "I") (by decide +kernel)) (fun _ h9 => h9) rfl dX4_isSame_4 ?_
    refine lv_icmp_ge (tgt := 40) hx hb dX4_isSame_7 (by decide) (fun c1 => ?_) (fun c2 => ?_)
    · have hw := hw.1 c1
      exact hk _ _ _ _ hw hP hD hS (lv_sub hl [] rfl)
    · have hw := hw.2 c2
      refine lv_aload_n hx hb dX4_isSame_10 rfl (lv_at hl 0 rfl) ?_
      refine va_get (D := (dC, dI)) (ci := 4) (v := .ref (ad_p0 0)) (C := RX4) (T := TX4) (N := 7) hx hb hts iX4 hown hK hP 0 rfl rfl 0 (by decide) (hts (.fieldLink RX4 31 "NetHouse$Markings" "cells" "[I") (by decide +kernel)) (fun _ h9 => h9) rfl dX4_isSame_11 ?_
      refine lv_iload_n hx hb dX4_isSame_14 rfl (lv_at hl 1 rfl) ?_
      refine lv_aload_n hx hb dX4_isSame_15 rfl (lv_at hl 0 rfl) ?_
      refine va_get (D := (dC, dI)) (ci := 4) (v := .int p0_width) (C := RX4) (T := TX4) (N := 7) hx hb hts iX4 hown hK hP 0 rfl rfl 5 (by decide) (hts (.fieldLink RX4 15 "NetHouse$Markings" "width" "I") (by decide +kernel)) (fun _ h9 => h9) rfl dX4_isSame_16 ?_
      refine lv_imul hx hb dX4_isSame_19 ?_
      refine lv_iload_n hx hb dX4_isSame_20 rfl (lv_at hl 3 rfl) ?_
      refine lv_iadd hx hb dX4_isSame_21 ?_
      refine va_iald hx hb hK hP 1 0 rfl rfl hw.1 dX4_isSame_22 ?_
      have hw := hw.2
      refine lv_aload_n hx hb dX4_isSame_23 rfl (lv_at hl 2 rfl) ?_
      refine va_get (D := (dC, dI)) (ci := 3) (v := .ref (ad_p2 0)) (C := RX3) (T := TX3) (N := 2) hx hb hts iX3 hown hK hP 2 rfl rfl 0 (by decide) (hts (.fieldLink RX4 49 "NetHouse$Holding" "many" "[I") (by decide +kernel)) (fun _ h9 => h9) rfl dX4_isSame_24 ?_
      refine lv_iload_n hx hb dX4_isSame_27 rfl (lv_at hl 3 rfl) ?_
      refine va_iald hx hb hK hP 3 0 rfl rfl hw.1 dX4_isSame_28 ?_
      have hw := hw.2
      refine lv_icmp_eq (tgt := 34) hx hb dX4_isSame_29 (by decide) (fun c3 => ?_) (fun c4 => ?_)
      · have hw := hw.1 c3
        obtain ⟨x5, ex5⟩ : ∃ y : Int32, y = v3 + (1 : Int32) := ⟨_, rfl⟩
        have hw := hw x5 ex5
        refine lv_iinc (v := x5) (lv' := [(3, .int x5), (0, .ref h_p0), (1, .int v1), (2, .ref h_p2)]) hx hb dX4_isSame_34 hl (k := 3) rfl (by rw [ex5]; rfl) (by decide) rfl (fun ls hl => ?_)
        refine lv_goto (tgt := 2) hx hb dX4_isSame_37 (by decide) ?_
        exact ih _ hw _ _ _ hP hD hS (lv_sub hl [1, 2, 3, 0] rfl)
      · have hw := hw.2 c4
        refine lv_iconst (v := 0) hx hb dX4_isSame_32 (by decide) ?_
        exact x_zret (w1 := fun (u : Unit) => (wld_X4_isSame cI cJ cZ h_p0 h_p2 ad_p0 ad_p2 n_p0 p0_width p0_size p0_cells p2_many)) hx hb hr hlocks (by decide) () hw hP hD hS dX4_isSame_33
set_option maxHeartbeats 4000000 in
set_option maxRecDepth 100000 in
theorem c_X4_isSame {l : Launch} {dC : Nat → ClassId} {dI : Nat → Nat → Nat} {sz : Nat} {cI cJ cZ : ClassId} {h_p0 : Nat} {h_p2 : Nat} {ad_p0 : Nat → Nat} {ad_p2 : Nat → Nat} {n_p0 : Nat} {p0_width : Int32} {p0_size : Int32} {p0_cells : Nat → Int32} {p2_many : Nat → Int32} {a1 : Int32} {post : Int32 → Prop} (hw : w_X4_isSame n_p0 p0_width p0_cells p2_many a1 post) : Met l yX4_isSame wsX4_isSame ({ frames := 0, cells := 0, slots := 0, locals := 0 }) (va_Pc [.ref h_p0, .int a1, .ref h_p2] (xPre (dC, dI) cI cJ cZ (wld_X4_isSame cI cJ cZ h_p0 h_p2 ad_p0 ad_p2 n_p0 p0_width p0_size p0_cells p2_many) sz)) (q_X4_isSame dC dI cI cJ cZ h_p0 h_p2 ad_p0 ad_p2 n_p0 p0_width p0_size p0_cells p2_many post (va_A (wld_X4_isSame cI cJ cZ h_p0 h_p2 ad_p0 ad_p2 n_p0 p0_width p0_size p0_cells p2_many) sz)) 0 0 (va_A (wld_X4_isSame cI cJ cZ h_p0 h_p2 ad_p0 ad_p2 n_p0 p0_width p0_size p0_cells p2_many) sz) := by
  refine x_met (cc := cX4_isSame) (maxL := 4) (ret := (some .boolean)) (own := RX4) (Qc := fun A => (q_X4_isSame dC dI cI cJ cZ h_p0 h_p2 ad_p0 ad_p2 n_p0 p0_width p0_size p0_cells p2_many post A)) (by decide) rfl rfl (Nat.le_of_ble_eq_true rfl) ?_
  intro p e s m args below meth c A ls E0 hP hD hS hl
  obtain ⟨hx, hb, hr, hml, hown, hts, hlocks, hK, hA, n1, n2⟩ := id E0
  have iX3 : ∀ w ∈ u_ws RX3 TX3 2, w ∈ wsX4_isSame := fun w h => List.mem_cons_of_mem _ (List.mem_append_right _ h)
  have iX4 : ∀ w ∈ u_ws RX4 TX4 7, w ∈ wsX4_isSame := fun w h => List.mem_cons_of_mem _ (List.mem_append_left _ (List.mem_append_right _ h))
  have hS0 := hS
  have hl : lv_has ls 4 [(0, .ref h_p0), (1, .int a1), (2, .ref h_p2)] := hl
  unfold w_X4_isSame at hw
  obtain ⟨H, hH⟩ : ∃ H, H = s.heap := ⟨_, rfl⟩
  have hS : va_S A s.heap H [] := by rw [hH]; exact hS
  have hP : va_P (dC, dI) vwCl (wld_X4_isSame cI cJ cZ h_p0 h_p2 ad_p0 ad_p2 n_p0 p0_width p0_size p0_cells p2_many) H := by rw [hH]; exact hP
  suffices hG : W p l e ({ frames := 0, cells := 0, slots := 0, locals := 0 }) s m args below meth c H [] 0 0 (MQ below (q_X4_isSame dC dI cI cJ cZ h_p0 h_p2 ad_p0 ad_p2 n_p0 p0_width p0_size p0_cells p2_many post A) args s 0 0 A) (F0 m 0 ls []) by rw [hH] at hG; exact hG
  clear hH
  refine lv_iconst (v := 0) hx hb dX4_isSame_0 (by decide) ?_
  refine lv_istore_n (lv' := [(3, .int (0 : Int32)), (0, .ref h_p0), (1, .int a1), (2, .ref h_p2)]) hx hb dX4_isSame_1 rfl hl (by decide) rfl (fun ls hl => ?_)
  obtain ⟨n6, hw⟩ := hw
  refine c_X4_isSame_L2 (l := l)  E0 ?_ n6 _ hw _ _ _ hP hD hS (lv_sub hl [1, 2, 3, 0] rfl)
  · intro v7 H locs ls hw hP hD hS hl
    have hP : va_P (dC, dI) vwCl (wld_X4_isSame cI cJ cZ h_p0 h_p2 ad_p0 ad_p2 n_p0 p0_width p0_size p0_cells p2_many) H := hP
    have hD : va_D A (wld_X4_isSame cI cJ cZ h_p0 h_p2 ad_p0 ad_p2 n_p0 p0_width p0_size p0_cells p2_many) := hD
    refine lv_iconst (v := 1) hx hb dX4_isSame_40 (by decide) ?_
    exact x_zret (w1 := fun (u : Unit) => (wld_X4_isSame cI cJ cZ h_p0 h_p2 ad_p0 ad_p2 n_p0 p0_width p0_size p0_cells p2_many)) hx hb hr hlocks (by decide) () hw hP hD hS dX4_isSame_41
abbrev wld_X4_indexOf (cI cJ cZ : ClassId) (h_p0 : Nat) (h_p1 : Nat) (ad_p0 : Nat → Nat) (ad_p1 : Nat → Nat) (n_p0 : Nat) (p0_width : Int32) (p0_size : Int32) (p0_cells : Nat → Int32) (p0_heads : Nat → Int32) (p0_links : Nat → Int32) (p1_many : Nat → Int32) : va_W := [(h_p0, .inr (4, [.ref (ad_p0 0), .ref (ad_p0 1), .ref (ad_p0 2), .ref (ad_p0 3), .ref (ad_p0 4), .int p0_width, .int p0_size])), ((ad_p0 0), .inl (cI, (n_p0 * 16), .inl p0_cells)), ((ad_p0 4), .inl (cI, 1024, .inl p0_heads)), ((ad_p0 3), .inl (cI, n_p0, .inl p0_links)), (h_p1, .inr (3, [.ref (ad_p1 0), .ref (ad_p1 1)])), ((ad_p1 0), .inl (cI, 16, .inl p1_many))]
abbrev q_X4_indexOf (dC : Nat → ClassId) (dI : Nat → Nat → Nat) (cI cJ cZ : ClassId) (h_p0 : Nat) (h_p1 : Nat) (ad_p0 : Nat → Nat) (ad_p1 : Nat → Nat) (n_p0 : Nat) (p0_width : Int32) (p0_size : Int32) (p0_cells : Nat → Int32) (p0_heads : Nat → Int32) (p0_links : Nat → Int32) (p1_many : Nat → Int32) (post : Int32 → Prop) (A : Nat → Prop) : Array Value → State → Outcome → State → Prop := va_Qi (fun r (u : Unit) => post r ) (fun (u : Unit) t => xPost (dC, dI) A (wld_X4_indexOf cI cJ cZ h_p0 h_p1 ad_p0 ad_p1 n_p0 p0_width p0_size p0_cells p0_heads p0_links p1_many) t) A
def w_X4_indexOf_L16b (n_p0 : Nat) (p0_size : Int32) (p0_width : Int32) (p0_cells : Nat → Int32) (p0_heads : Nat → Int32) (p0_links : Nat → Int32) (p1_many : Nat → Int32) (post : Int32 → Prop) (K : (Int32) → (Int32) → Prop) (rec : (Int32) → (Int32) → Prop) (v2 : Int32) (v3 : Int32) : Prop :=
    (v3 ≤ 0 →
      K v2 v3) ∧
    (¬ v3 ≤ 0 →
      (v2 < 0 →
        K v2 v3) ∧
      (¬ v2 < 0 →
        w_X4_isSame n_p0 p0_width p0_cells p1_many v2 (fun r7 =>
        (r7 = 0 →
          vp_in v2 n_p0 ∧
          ∀ x10 : Int32, x10 = (p0_links v2.toNatClampNeg) →
          ∀ x11 : Int32, x11 = v3 + (-1 : Int32) →
          rec x10 x11) ∧
        (¬ r7 = 0 →
          (post v2)))))
def w_X4_indexOf_L16 (n_p0 : Nat) (p0_size : Int32) (p0_width : Int32) (p0_cells : Nat → Int32) (p0_heads : Nat → Int32) (p0_links : Nat → Int32) (p1_many : Nat → Int32) (post : Int32 → Prop) (K : (Int32) → (Int32) → Prop) : Nat → (Int32) → (Int32) → Prop
  | 0, _, _ => False
  | n + 1, v2, v3 => w_X4_indexOf_L16b n_p0 p0_size p0_width p0_cells p0_heads p0_links p1_many post K (w_X4_indexOf_L16 n_p0 p0_size p0_width p0_cells p0_heads p0_links p1_many post K n) v2 v3
def w_X4_indexOf (n_p0 : Nat) (p0_size : Int32) (p0_width : Int32) (p0_cells : Nat → Int32) (p0_heads : Nat → Int32) (p0_links : Nat → Int32) (p1_many : Nat → Int32) (post : Int32 → Prop) : Prop :=
  w_X4_bucketOf p0_width p1_many (fun r1 =>
  vp_in r1 1024 ∧
  ∀ x2 : Int32, x2 = (p0_heads r1.toNatClampNeg) →
  ∃ n : Nat, w_X4_indexOf_L16 n_p0 p0_size p0_width p0_cells p0_heads p0_links p1_many post (fun v13 v14 =>
      (post (-1 : Int32))) n x2 p0_size)
set_option maxHeartbeats 4000000 in
set_option maxRecDepth 100000 in
theorem c_X4_indexOf_L16 {p : Program} {l : Launch} {e : Env} {s : State} {m : MethodId} {args : Array Value} {below : List Frame} {meth : Method} {c : Code} {dC : Nat → ClassId} {dI : Nat → Nat → Nat} {A : Nat → Prop} {cI cJ cZ : ClassId} {h_p0 : Nat} {h_p1 : Nat} {ad_p0 : Nat → Nat} {ad_p1 : Nat → Nat} {n_p0 : Nat} {p0_width : Int32} {p0_size : Int32} {p0_cells : Nat → Int32} {p0_heads : Nat → Int32} {p0_links : Nat → Int32} {p1_many : Nat → Int32}  {post : Int32 → Prop} {K : (Int32) → (Int32) → Prop} (E0 : xEnv p s m args meth c cX4_indexOf (some .int) 4 RX4 wsX4_indexOf (dC, dI) cI cJ cZ A) (hk : ∀ (v2 : Int32) (v3 : Int32) (H : Heap) (locs : List Loc) (ls : Array Slot), K v2 v3 → va_P (dC, dI) vwCl (wld_X4_indexOf cI cJ cZ h_p0 h_p1 ad_p0 ad_p1 n_p0 p0_width p0_size p0_cells p0_heads p0_links p1_many) H → va_D A (wld_X4_indexOf cI cJ cZ h_p0 h_p1 ad_p0 ad_p1 n_p0 p0_width p0_size p0_cells p0_heads p0_links p1_many) → va_S A s.heap H locs → lv_has ls 4 [] → W p l e ({ frames := 1, cells := 0, slots := 0, locals := 23 }) s m args below meth c H locs 0 0 (MQ below (q_X4_indexOf dC dI cI cJ cZ h_p0 h_p1 ad_p0 ad_p1 n_p0 p0_width p0_size p0_cells p0_heads p0_links p1_many post A) args s 0 0 A) (F0 m 48 ls [])) : ∀ (n : Nat) (v2 : Int32) (v3 : Int32), w_X4_indexOf_L16 n_p0 p0_size p0_width p0_cells p0_heads p0_links p1_many post K n v2 v3 → ∀ (H : Heap) (locs : List Loc) (ls : Array Slot), va_P (dC, dI) vwCl (wld_X4_indexOf cI cJ cZ h_p0 h_p1 ad_p0 ad_p1 n_p0 p0_width p0_size p0_cells p0_heads p0_links p1_many) H → va_D A (wld_X4_indexOf cI cJ cZ h_p0 h_p1 ad_p0 ad_p1 n_p0 p0_width p0_size p0_cells p0_heads p0_links p1_many) → va_S A s.heap H locs → lv_has ls 4 [(0, .ref h_p0), (1, .ref h_p1), (2, .int v2), (3, .int v3)] → W p l e ({ frames := 1, cells := 0, slots := 0, locals := 23 }) s m args below meth c H locs 0 0 (MQ below (q_X4_indexOf dC dI cI cJ cZ h_p0 h_p1 ad_p0 ad_p1 n_p0 p0_width p0_size p0_cells p0_heads p0_links p1_many post A) args s 0 0 A) (F0 m 16 ls []) := by
  obtain ⟨hx, hb, hr, hml, hown, hts, hlocks, hK, hA, n1, n2⟩ := id E0
  have iX3 : ∀ w ∈ u_ws RX3 TX3 2, w ∈ wsX4_indexOf := fun w h => List.mem_cons_of_mem _ (List.mem_append_right _ h)
  have iX4 : ∀ w ∈ u_ws RX4 TX4 7, w ∈ wsX4_indexOf := fun w h => List.mem_cons_of_mem _ (List.mem_append_left _ (List.mem_append_right _ h))
  intro n
  induction n with
  | zero => intro v2 v3 hw; exact hw.elim
  | succ n ih =>
    intro v2 v3 hw H locs ls hP hD hS hl
    have hw : w_X4_indexOf_L16b n_p0 p0_size p0_width p0_cells p0_heads p0_links p1_many post K (w_X4_indexOf_L16 n_p0 p0_size p0_width p0_cells p0_heads p0_links p1_many post K n) v2 v3 := hw
    unfold w_X4_indexOf_L16b at hw
    refine lv_iload_n hx hb dX4_indexOf_16 rfl (lv_at hl 3 rfl) ?_
    refine lv_if_le (tgt := 48) hx hb dX4_indexOf_17 (by decide) (fun c3 => ?_) (fun c4 => ?_)
    · have hw := hw.1 c3
      exact hk _ _ _ _ _ hw hP hD hS (lv_sub hl [] rfl)
    · have hw := hw.2 c4
      refine lv_iload_n hx hb dX4_indexOf_20 rfl (lv_at hl 2 rfl) ?_
      refine lv_if_lt (tgt := 48) hx hb dX4_indexOf_21 (by decide) (fun c5 => ?_) (fun c6 => ?_)
      · have hw := hw.1 c5
        exact hk _ _ _ _ _ hw hP hD hS (lv_sub hl [] rfl)
      · have hw := hw.2 c6
        refine lv_aload_n hx hb dX4_indexOf_24 rfl (lv_at hl 0 rfl) ?_
        refine lv_iload_n hx hb dX4_indexOf_25 rfl (lv_at hl 2 rfl) ?_
        refine lv_aload_n hx hb dX4_indexOf_26 rfl (lv_at hl 1 rfl) ?_
        obtain ⟨hPc, hDc⟩ := x_sub (wc := (wld_X4_isSame cI cJ cZ h_p0 h_p1 ad_p0 ad_p1 n_p0 p0_width p0_size p0_cells p1_many)) hP hD [0, 1, 4, 5] (n := 6) rfl rfl (by decide +kernel)
        refine x_calli (ws' := fun (u : Unit) => (wld_X4_indexOf cI cJ cZ h_p0 h_p1 ad_p0 ad_p1 n_p0 p0_width p0_size p0_cells p0_heads p0_links p1_many)) hP hD hS hA [0, 1, 4, 5] [2, 3] [2, 3, 0, 1, 4, 5] (n := 6) (k := 4) rfl (fun _ => rfl) rfl (by decide +kernel) (fun _ => rfl) (va_runV (As := [.int v2, .ref h_p1]) (rest := []) ⟨hx, hb, hml, hown, hts⟩ (c_X4_isSame (l := l) (dC := dC) (dI := dI) (cI := cI) (cJ := cJ) (cZ := cZ) (sz := H.size) (h_p0 := h_p0) (h_p2 := h_p1) (ad_p0 := ad_p0) (ad_p2 := ad_p1) (n_p0 := n_p0) (p0_width := p0_width) (p0_size := p0_size) (p0_cells := p0_cells) (p2_many := p1_many) hw) (cwV 2 hts gX4_indexOf_X4_isSame rfl rfl rfl (by decide +kernel) ⟨Nat.le_of_ble_eq_true rfl, Nat.le_of_ble_eq_true rfl⟩) ⟨xPre_blind, va_recv hK hP (ci := 4) (q0 := 0) rfl rfl, xPre_at hK hPc hDc n1 n2⟩ rfl rfl hl.1 rfl (lv_room (Nat.le_of_ble_eq_true rfl)) dX4_indexOf_27 ⟨Nat.zero_le _, Nat.zero_le _⟩) (fun r7 u H locs hw hP hD hS => ?_)
        try dsimp only at hw
        have hP : va_P (dC, dI) vwCl (wld_X4_indexOf cI cJ cZ h_p0 h_p1 ad_p0 ad_p1 n_p0 p0_width p0_size p0_cells p0_heads p0_links p1_many) H := hP
        have hD : va_D A (wld_X4_indexOf cI cJ cZ h_p0 h_p1 ad_p0 ad_p1 n_p0 p0_width p0_size p0_cells p0_heads p0_links p1_many) := hD
        refine lv_if_eq (tgt := 35) hx hb dX4_indexOf_30 (by decide) (fun c8 => ?_) (fun c9 => ?_)
        · have hw := hw.1 c8
          refine lv_aload_n hx hb dX4_indexOf_35 rfl (lv_at hl 0 rfl) ?_
          refine va_get (D := (dC, dI)) (ci := 4) (v := .ref (ad_p0 3)) (C := RX4) (T := TX4) (N := 7) hx hb hts iX4 hown hK hP 0 rfl rfl 3 (by decide) (hts (.fieldLink RX4 40 "NetHouse$Markings" "links" "[I") (by decide +kernel)) (fun _ h9 => h9) rfl dX4_indexOf_36 ?_
          refine lv_iload_n hx hb dX4_indexOf_39 rfl (lv_at hl 2 rfl) ?_
          refine va_iald hx hb hK hP 3 0 rfl rfl hw.1 dX4_indexOf_40 ?_
          have hw := hw.2
          refine lv_topi (fun x10 ex10 => ?_)
          have hw := hw x10 ex10
          refine lv_istore_n (lv' := [(2, .int x10), (0, .ref h_p0), (1, .ref h_p1), (3, .int v3)]) hx hb dX4_indexOf_41 rfl hl (by decide) rfl (fun ls hl => ?_)
          obtain ⟨x11, ex11⟩ : ∃ y : Int32, y = v3 + (-1 : Int32) := ⟨_, rfl⟩
          have hw := hw x11 ex11
          refine lv_iinc (v := x11) (lv' := [(3, .int x11), (2, .int x10), (0, .ref h_p0), (1, .ref h_p1)]) hx hb dX4_indexOf_42 hl (k := 3) rfl (by rw [ex11]; rfl) (by decide) rfl (fun ls hl => ?_)
          refine lv_goto (tgt := 16) hx hb dX4_indexOf_45 (by decide) ?_
          exact ih _ _ hw _ _ _ hP hD hS (lv_sub hl [2, 3, 1, 0] rfl)
        · have hw := hw.2 c9
          refine lv_iload_n hx hb dX4_indexOf_33 rfl (lv_at hl 2 rfl) ?_
          exact x_iret (w1 := fun (u : Unit) => (wld_X4_indexOf cI cJ cZ h_p0 h_p1 ad_p0 ad_p1 n_p0 p0_width p0_size p0_cells p0_heads p0_links p1_many)) hx hb hr hlocks () hw hP hD hS dX4_indexOf_34
set_option maxHeartbeats 4000000 in
set_option maxRecDepth 100000 in
theorem c_X4_indexOf {l : Launch} {dC : Nat → ClassId} {dI : Nat → Nat → Nat} {sz : Nat} {cI cJ cZ : ClassId} {h_p0 : Nat} {h_p1 : Nat} {ad_p0 : Nat → Nat} {ad_p1 : Nat → Nat} {n_p0 : Nat} {p0_width : Int32} {p0_size : Int32} {p0_cells : Nat → Int32} {p0_heads : Nat → Int32} {p0_links : Nat → Int32} {p1_many : Nat → Int32}  {post : Int32 → Prop} (hw : w_X4_indexOf n_p0 p0_size p0_width p0_cells p0_heads p0_links p1_many post) : Met l yX4_indexOf wsX4_indexOf ({ frames := 1, cells := 0, slots := 0, locals := 23 }) (va_Pc [.ref h_p0, .ref h_p1] (xPre (dC, dI) cI cJ cZ (wld_X4_indexOf cI cJ cZ h_p0 h_p1 ad_p0 ad_p1 n_p0 p0_width p0_size p0_cells p0_heads p0_links p1_many) sz)) (q_X4_indexOf dC dI cI cJ cZ h_p0 h_p1 ad_p0 ad_p1 n_p0 p0_width p0_size p0_cells p0_heads p0_links p1_many post (va_A (wld_X4_indexOf cI cJ cZ h_p0 h_p1 ad_p0 ad_p1 n_p0 p0_width p0_size p0_cells p0_heads p0_links p1_many) sz)) 0 0 (va_A (wld_X4_indexOf cI cJ cZ h_p0 h_p1 ad_p0 ad_p1 n_p0 p0_width p0_size p0_cells p0_heads p0_links p1_many) sz) := by
  refine x_met (cc := cX4_indexOf) (maxL := 4) (ret := (some .int)) (own := RX4) (Qc := fun A => (q_X4_indexOf dC dI cI cJ cZ h_p0 h_p1 ad_p0 ad_p1 n_p0 p0_width p0_size p0_cells p0_heads p0_links p1_many post A)) (by decide) rfl rfl (Nat.le_of_ble_eq_true rfl) ?_
  intro p e s m args below meth c A ls E0 hP hD hS hl
  obtain ⟨hx, hb, hr, hml, hown, hts, hlocks, hK, hA, n1, n2⟩ := id E0
  have iX3 : ∀ w ∈ u_ws RX3 TX3 2, w ∈ wsX4_indexOf := fun w h => List.mem_cons_of_mem _ (List.mem_append_right _ h)
  have iX4 : ∀ w ∈ u_ws RX4 TX4 7, w ∈ wsX4_indexOf := fun w h => List.mem_cons_of_mem _ (List.mem_append_left _ (List.mem_append_right _ h))
  have hS0 := hS
  have hl : lv_has ls 4 [(0, .ref h_p0), (1, .ref h_p1)] := hl
  unfold w_X4_indexOf at hw
  obtain ⟨H, hH⟩ : ∃ H, H = s.heap := ⟨_, rfl⟩
  have hS : va_S A s.heap H [] := by rw [hH]; exact hS
  have hP : va_P (dC, dI) vwCl (wld_X4_indexOf cI cJ cZ h_p0 h_p1 ad_p0 ad_p1 n_p0 p0_width p0_size p0_cells p0_heads p0_links p1_many) H := by rw [hH]; exact hP
  suffices hG : W p l e ({ frames := 1, cells := 0, slots := 0, locals := 23 }) s m args below meth c H [] 0 0 (MQ below (q_X4_indexOf dC dI cI cJ cZ h_p0 h_p1 ad_p0 ad_p1 n_p0 p0_width p0_size p0_cells p0_heads p0_links p1_many post A) args s 0 0 A) (F0 m 0 ls []) by rw [hH] at hG; exact hG
  clear hH
  refine lv_aload_n hx hb dX4_indexOf_0 rfl (lv_at hl 0 rfl) ?_
  refine va_get (D := (dC, dI)) (ci := 4) (v := .ref (ad_p0 4)) (C := RX4) (T := TX4) (N := 7) hx hb hts iX4 hown hK hP 0 rfl rfl 4 (by decide) (hts (.fieldLink RX4 11 "NetHouse$Markings" "heads" "[I") (by decide +kernel)) (fun _ h9 => h9) rfl dX4_indexOf_1 ?_
  refine lv_aload_n hx hb dX4_indexOf_4 rfl (lv_at hl 0 rfl) ?_
  refine lv_aload_n hx hb dX4_indexOf_5 rfl (lv_at hl 1 rfl) ?_
  obtain ⟨hPc, hDc⟩ := x_sub (wc := (wld_X4_bucketOf cI cJ cZ h_p0 h_p1 ad_p0 ad_p1 p0_width p0_size p1_many)) hP hD [0, 4, 5] (n := 6) rfl rfl (by decide +kernel)
  refine x_calli (ws' := fun (u : Unit) => (wld_X4_indexOf cI cJ cZ h_p0 h_p1 ad_p0 ad_p1 n_p0 p0_width p0_size p0_cells p0_heads p0_links p1_many)) hP hD hS hA [0, 4, 5] [1, 2, 3] [3, 0, 1, 2, 4, 5] (n := 6) (k := 3) rfl (fun _ => rfl) rfl (by decide +kernel) (fun _ => rfl) (va_runV (As := [.ref h_p1]) (rest := [.ref (ad_p0 4)]) ⟨hx, hb, hml, hown, hts⟩ (c_X4_bucketOf (l := l) (dC := dC) (dI := dI) (cI := cI) (cJ := cJ) (cZ := cZ) (sz := H.size) (h_p0 := h_p0) (h_p1 := h_p1) (ad_p0 := ad_p0) (ad_p1 := ad_p1) (p0_width := p0_width) (p0_size := p0_size) (p1_many := p1_many) hw) (cwV 1 hts gX4_indexOf_X4_bucketOf rfl rfl rfl (by decide +kernel) ⟨Nat.le_of_ble_eq_true rfl, Nat.le_of_ble_eq_true rfl⟩) ⟨xPre_blind, va_recv hK hP (ci := 4) (q0 := 0) rfl rfl, xPre_at hK hPc hDc n1 n2⟩ rfl rfl hl.1 rfl (lv_room (Nat.le_of_ble_eq_true rfl)) dX4_indexOf_6 ⟨Nat.zero_le _, Nat.zero_le _⟩) (fun r1 u H locs hw hP hD hS => ?_)
  try dsimp only at hw
  have hP : va_P (dC, dI) vwCl (wld_X4_indexOf cI cJ cZ h_p0 h_p1 ad_p0 ad_p1 n_p0 p0_width p0_size p0_cells p0_heads p0_links p1_many) H := hP
  have hD : va_D A (wld_X4_indexOf cI cJ cZ h_p0 h_p1 ad_p0 ad_p1 n_p0 p0_width p0_size p0_cells p0_heads p0_links p1_many) := hD
  refine va_iald hx hb hK hP 2 0 rfl rfl hw.1 dX4_indexOf_9 ?_
  have hw := hw.2
  refine lv_topi (fun x2 ex2 => ?_)
  have hw := hw x2 ex2
  refine lv_istore_n (lv' := [(2, .int x2), (0, .ref h_p0), (1, .ref h_p1)]) hx hb dX4_indexOf_10 rfl hl (by decide) rfl (fun ls hl => ?_)
  refine lv_aload_n hx hb dX4_indexOf_11 rfl (lv_at hl 1 rfl) ?_
  refine va_get (D := (dC, dI)) (ci := 4) (v := .int p0_size) (C := RX4) (T := TX4) (N := 7) hx hb hts iX4 hown hK hP 0 rfl rfl 6 (by decide) (hts (.fieldLink RX4 19 "NetHouse$Markings" "size" "I") (by decide +kernel)) (fun _ h9 => h9) rfl dX4_indexOf_12 ?_
  refine lv_istore_n (lv' := [(3, .int p0_size), (2, .int x2), (0, .ref h_p0), (1, .ref h_p1)]) hx hb dX4_indexOf_15 rfl hl (by decide) rfl (fun ls hl => ?_)
  obtain ⟨n12, hw⟩ := hw
  refine c_X4_indexOf_L16 (l := l)  E0 ?_ n12 _ _ hw _ _ _ hP hD hS (lv_sub hl [2, 3, 1, 0] rfl)
  · intro v13 v14 H locs ls hw hP hD hS hl
    have hP : va_P (dC, dI) vwCl (wld_X4_indexOf cI cJ cZ h_p0 h_p1 ad_p0 ad_p1 n_p0 p0_width p0_size p0_cells p0_heads p0_links p1_many) H := hP
    have hD : va_D A (wld_X4_indexOf cI cJ cZ h_p0 h_p1 ad_p0 ad_p1 n_p0 p0_width p0_size p0_cells p0_heads p0_links p1_many) := hD
    refine lv_iconst (v := -1) hx hb dX4_indexOf_48 (by decide) ?_
    exact x_iret (w1 := fun (u : Unit) => (wld_X4_indexOf cI cJ cZ h_p0 h_p1 ad_p0 ad_p1 n_p0 p0_width p0_size p0_cells p0_heads p0_links p1_many)) hx hb hr hlocks () hw hP hD hS dX4_indexOf_49
abbrev wld_X4_load (cI cJ cZ : ClassId) (h_p0 : Nat) (h_p2 : Nat) (ad_p0 : Nat → Nat) (ad_p2 : Nat → Nat) (n_p0 : Nat) (p0_width : Int32) (p0_size : Int32) (p0_cells : Nat → Int32) (p2_many : Nat → Int32) : va_W := [(h_p0, .inr (4, [.ref (ad_p0 0), .ref (ad_p0 1), .ref (ad_p0 2), .ref (ad_p0 3), .ref (ad_p0 4), .int p0_width, .int p0_size])), ((ad_p0 0), .inl (cI, (n_p0 * 16), .inl p0_cells)), (h_p2, .inr (3, [.ref (ad_p2 0), .ref (ad_p2 1)])), ((ad_p2 0), .inl (cI, 16, .inl p2_many))]
abbrev q_X4_load (dC : Nat → ClassId) (dI : Nat → Nat → Nat) (cI cJ cZ : ClassId) (h_p0 : Nat) (h_p2 : Nat) (ad_p0 : Nat → Nat) (ad_p2 : Nat → Nat) (n_p0 : Nat) (p0_width : Int32) (p0_size : Int32) (p0_cells : Nat → Int32) (p2_many : Nat → Int32) (post : (Nat → Int32) → Prop) (A : Nat → Prop) : Array Value → State → Outcome → State → Prop := va_Qv (fun (u : (Nat → Int32)) => post u) (fun (u : (Nat → Int32)) t => xPost (dC, dI) A (wld_X4_load cI cJ cZ h_p0 h_p2 ad_p0 ad_p2 n_p0 p0_width p0_size p0_cells u) t) A
def w_X4_load (n_p0 : Nat) (p0_width : Int32) (p0_cells : Nat → Int32) (p2_many : Nat → Int32) (a1 : Int32) (post : (Nat → Int32) → Prop) : Prop :=
  (¬ (a1 * p0_width) < 0 ∧ ¬ (0 : Int32) < 0 ∧ ¬ p0_width < 0 ∧ (a1 * p0_width).toNatClampNeg + p0_width.toNatClampNeg ≤ (n_p0 * 16) ∧ (0 : Int32).toNatClampNeg + p0_width.toNatClampNeg ≤ 16) ∧
  (post (va_cpy p0_cells p2_many (a1 * p0_width).toNatClampNeg (0 : Int32).toNatClampNeg p0_width.toNatClampNeg))
set_option maxHeartbeats 4000000 in
set_option maxRecDepth 100000 in
theorem c_X4_load {l : Launch} {dC : Nat → ClassId} {dI : Nat → Nat → Nat} {sz : Nat} {cI cJ cZ : ClassId} {h_p0 : Nat} {h_p2 : Nat} {ad_p0 : Nat → Nat} {ad_p2 : Nat → Nat} {n_p0 : Nat} {p0_width : Int32} {p0_size : Int32} {p0_cells : Nat → Int32} {p2_many : Nat → Int32} {a1 : Int32} {post : (Nat → Int32) → Prop} (hw : w_X4_load n_p0 p0_width p0_cells p2_many a1 post) : Met l yX4_load wsX4_load ({ frames := 1, cells := 0, slots := 0, locals := 30 }) (va_Pc [.ref h_p0, .int a1, .ref h_p2] (xPre (dC, dI) cI cJ cZ (wld_X4_load cI cJ cZ h_p0 h_p2 ad_p0 ad_p2 n_p0 p0_width p0_size p0_cells p2_many) sz)) (q_X4_load dC dI cI cJ cZ h_p0 h_p2 ad_p0 ad_p2 n_p0 p0_width p0_size p0_cells p2_many post (va_A (wld_X4_load cI cJ cZ h_p0 h_p2 ad_p0 ad_p2 n_p0 p0_width p0_size p0_cells p2_many) sz)) 0 0 (va_A (wld_X4_load cI cJ cZ h_p0 h_p2 ad_p0 ad_p2 n_p0 p0_width p0_size p0_cells p2_many) sz) := by
  refine x_met (cc := cX4_load) (maxL := 3) (ret := none) (own := RX4) (Qc := fun A => (q_X4_load dC dI cI cJ cZ h_p0 h_p2 ad_p0 ad_p2 n_p0 p0_width p0_size p0_cells p2_many post A)) (by decide) rfl rfl (Nat.le_of_ble_eq_true rfl) ?_
  intro p e s m args below meth c A ls E0 hP hD hS hl
  obtain ⟨hx, hb, hr, hml, hown, hts, hlocks, hK, hA, n1, n2⟩ := id E0
  have iX3 : ∀ w ∈ u_ws RX3 TX3 2, w ∈ wsX4_load := fun w h => List.mem_cons_of_mem _ (List.mem_append_right _ h)
  have iX4 : ∀ w ∈ u_ws RX4 TX4 7, w ∈ wsX4_load := fun w h => List.mem_cons_of_mem _ (List.mem_append_left _ (List.mem_append_right _ h))
  have hS0 := hS
  have hl : lv_has ls 3 [(0, .ref h_p0), (1, .int a1), (2, .ref h_p2)] := hl
  unfold w_X4_load at hw
  obtain ⟨H, hH⟩ : ∃ H, H = s.heap := ⟨_, rfl⟩
  have hS : va_S A s.heap H [] := by rw [hH]; exact hS
  have hP : va_P (dC, dI) vwCl (wld_X4_load cI cJ cZ h_p0 h_p2 ad_p0 ad_p2 n_p0 p0_width p0_size p0_cells p2_many) H := by rw [hH]; exact hP
  suffices hG : W p l e ({ frames := 1, cells := 0, slots := 0, locals := 30 }) s m args below meth c H [] 0 0 (MQ below (q_X4_load dC dI cI cJ cZ h_p0 h_p2 ad_p0 ad_p2 n_p0 p0_width p0_size p0_cells p2_many post A) args s 0 0 A) (F0 m 0 ls []) by rw [hH] at hG; exact hG
  clear hH
  refine lv_aload_n hx hb dX4_load_0 rfl (lv_at hl 0 rfl) ?_
  refine va_get (D := (dC, dI)) (ci := 4) (v := .ref (ad_p0 0)) (C := RX4) (T := TX4) (N := 7) hx hb hts iX4 hown hK hP 0 rfl rfl 0 (by decide) (hts (.fieldLink RX4 31 "NetHouse$Markings" "cells" "[I") (by decide +kernel)) (fun _ h9 => h9) rfl dX4_load_1 ?_
  refine lv_iload_n hx hb dX4_load_4 rfl (lv_at hl 1 rfl) ?_
  refine lv_aload_n hx hb dX4_load_5 rfl (lv_at hl 0 rfl) ?_
  refine va_get (D := (dC, dI)) (ci := 4) (v := .int p0_width) (C := RX4) (T := TX4) (N := 7) hx hb hts iX4 hown hK hP 0 rfl rfl 5 (by decide) (hts (.fieldLink RX4 15 "NetHouse$Markings" "width" "I") (by decide +kernel)) (fun _ h9 => h9) rfl dX4_load_6 ?_
  refine lv_imul hx hb dX4_load_9 ?_
  refine lv_aload_n hx hb dX4_load_10 rfl (lv_at hl 2 rfl) ?_
  refine va_get (D := (dC, dI)) (ci := 3) (v := .ref (ad_p2 0)) (C := RX3) (T := TX3) (N := 2) hx hb hts iX3 hown hK hP 2 rfl rfl 0 (by decide) (hts (.fieldLink RX4 49 "NetHouse$Holding" "many" "[I") (by decide +kernel)) (fun _ h9 => h9) rfl dX4_load_11 ?_
  refine lv_iconst (v := 0) hx hb dX4_load_14 (by decide) ?_
  refine lv_aload_n hx hb dX4_load_15 rfl (lv_at hl 0 rfl) ?_
  refine va_get (D := (dC, dI)) (ci := 4) (v := .int p0_width) (C := RX4) (T := TX4) (N := 7) hx hb hts iX4 hown hK hP 0 rfl rfl 5 (by decide) (hts (.fieldLink RX4 15 "NetHouse$Markings" "width" "I") (by decide +kernel)) (fun _ h9 => h9) rfl dX4_load_16 ?_
  have h9 := hw.1
  have hw := hw.2
  refine va_copyi hx hb (by rw [hml]; exact hl.1.symm) hown (hts (.methodLink RX4 63 arraycopyName) (by decide +kernel)) (hts (.native arraycopyName) (by decide +kernel)) (hts (.static arraycopyName) (by decide +kernel)) (hts (.initialized "java/lang/System") (by decide +kernel)) hK hP hD hS 1 3 0 0 rfl rfl rfl rfl rfl h9.1 h9.2.1 h9.2.2.1 h9.2.2.2.1 h9.2.2.2.2 (fun _ _ => rfl) (Nat.le_of_ble_eq_true rfl) (Nat.le_of_ble_eq_true rfl) dX4_load_19 (fun H locs hP hD hS => ?_)
  have hP : va_P (dC, dI) vwCl (wld_X4_load cI cJ cZ h_p0 h_p2 ad_p0 ad_p2 n_p0 p0_width p0_size p0_cells (va_cpy p0_cells p2_many (a1 * p0_width).toNatClampNeg (0 : Int32).toNatClampNeg p0_width.toNatClampNeg)) H := hP
  have hD : va_D A (wld_X4_load cI cJ cZ h_p0 h_p2 ad_p0 ad_p2 n_p0 p0_width p0_size p0_cells (va_cpy p0_cells p2_many (a1 * p0_width).toNatClampNeg (0 : Int32).toNatClampNeg p0_width.toNatClampNeg)) := hD
  exact x_vret (w1 := fun (u : (Nat → Int32)) => (wld_X4_load cI cJ cZ h_p0 h_p2 ad_p0 ad_p2 n_p0 p0_width p0_size p0_cells u)) hx hb hr hlocks ((va_cpy p0_cells p2_many (a1 * p0_width).toNatClampNeg (0 : Int32).toNatClampNeg p0_width.toNatClampNeg)) hw hP hD hS dX4_load_22
abbrev wld_X3_isOfKind (cI cJ cZ : ClassId) : va_W := []
abbrev q_X3_isOfKind (dC : Nat → ClassId) (dI : Nat → Nat → Nat) (cI cJ cZ : ClassId) (post : Int32 → Prop) (A : Nat → Prop) : Array Value → State → Outcome → State → Prop := va_Qi (fun r (u : Unit) => post r ) (fun (u : Unit) t => xPost (dC, dI) A (wld_X3_isOfKind cI cJ cZ) t) A
def w_X3_isOfKind (a0 : Int32) (a1 : Int32) (post : Int32 → Prop) : Prop :=
  (a1 = 0 →
    (post (1 : Int32))) ∧
  (¬ a1 = 0 →
    (a0 = a1 →
      (post (1 : Int32))) ∧
    (¬ a0 = a1 →
      (¬ a1 = (1 : Int32) →
        (post (0 : Int32))) ∧
      (a1 = (1 : Int32) →
        (¬ a0 = (2 : Int32) →
          (post (0 : Int32))) ∧
        (a0 = (2 : Int32) →
          (post (1 : Int32))))))
set_option maxHeartbeats 4000000 in
set_option maxRecDepth 100000 in
theorem c_X3_isOfKind {l : Launch} {dC : Nat → ClassId} {dI : Nat → Nat → Nat} {sz : Nat} {cI cJ cZ : ClassId} {a0 : Int32} {a1 : Int32} {post : Int32 → Prop} (hw : w_X3_isOfKind a0 a1 post) : Met l yX3_isOfKind wsX3_isOfKind ({ frames := 0, cells := 0, slots := 0, locals := 0 }) (va_Pc [.int a0, .int a1] (xPre (dC, dI) cI cJ cZ (wld_X3_isOfKind cI cJ cZ) sz)) (q_X3_isOfKind dC dI cI cJ cZ post (va_A (wld_X3_isOfKind cI cJ cZ) sz)) 0 0 (va_A (wld_X3_isOfKind cI cJ cZ) sz) := by
  refine x_met (cc := cX3_isOfKind) (maxL := 2) (ret := (some .boolean)) (own := RX3) (Qc := fun A => (q_X3_isOfKind dC dI cI cJ cZ post A)) (by decide) rfl rfl (Nat.le_of_ble_eq_true rfl) ?_
  intro p e s m args below meth c A ls E0 hP hD hS hl
  obtain ⟨hx, hb, hr, hml, hown, hts, hlocks, hK, hA, n1, n2⟩ := id E0
  have hS0 := hS
  have hl : lv_has ls 2 [(0, .int a0), (1, .int a1)] := hl
  unfold w_X3_isOfKind at hw
  obtain ⟨H, hH⟩ : ∃ H, H = s.heap := ⟨_, rfl⟩
  have hS : va_S A s.heap H [] := by rw [hH]; exact hS
  have hP : va_P (dC, dI) vwCl (wld_X3_isOfKind cI cJ cZ) H := by rw [hH]; exact hP
  suffices hG : W p l e ({ frames := 0, cells := 0, slots := 0, locals := 0 }) s m args below meth c H [] 0 0 (MQ below (q_X3_isOfKind dC dI cI cJ cZ post A) args s 0 0 A) (F0 m 0 ls []) by rw [hH] at hG; exact hG
  clear hH
  refine lv_iload_n hx hb dX3_isOfKind_0 rfl (lv_at hl 1 rfl) ?_
  refine lv_if_eq (tgt := 19) hx hb dX3_isOfKind_1 (by decide) (fun c1 => ?_) (fun c2 => ?_)
  · have hw := hw.1 c1
    refine lv_iconst (v := 1) hx hb dX3_isOfKind_19 (by decide) ?_
    refine lv_goto (tgt := 24) hx hb dX3_isOfKind_20 (by decide) ?_
    exact x_zret (w1 := fun (u : Unit) => (wld_X3_isOfKind cI cJ cZ)) hx hb hr hlocks (by decide) () hw hP hD hS dX3_isOfKind_24
  · have hw := hw.2 c2
    refine lv_iload_n hx hb dX3_isOfKind_4 rfl (lv_at hl 0 rfl) ?_
    refine lv_iload_n hx hb dX3_isOfKind_5 rfl (lv_at hl 1 rfl) ?_
    refine lv_icmp_eq (tgt := 19) hx hb dX3_isOfKind_6 (by decide) (fun c3 => ?_) (fun c4 => ?_)
    · have hw := hw.1 c3
      refine lv_iconst (v := 1) hx hb dX3_isOfKind_19 (by decide) ?_
      refine lv_goto (tgt := 24) hx hb dX3_isOfKind_20 (by decide) ?_
      exact x_zret (w1 := fun (u : Unit) => (wld_X3_isOfKind cI cJ cZ)) hx hb hr hlocks (by decide) () hw hP hD hS dX3_isOfKind_24
    · have hw := hw.2 c4
      refine lv_iload_n hx hb dX3_isOfKind_9 rfl (lv_at hl 1 rfl) ?_
      refine lv_iconst (v := 1) hx hb dX3_isOfKind_10 (by decide) ?_
      refine lv_icmp_ne (tgt := 23) hx hb dX3_isOfKind_11 (by decide) (fun c5 => ?_) (fun c6 => ?_)
      · have hw := hw.1 c5
        refine lv_iconst (v := 0) hx hb dX3_isOfKind_23 (by decide) ?_
        exact x_zret (w1 := fun (u : Unit) => (wld_X3_isOfKind cI cJ cZ)) hx hb hr hlocks (by decide) () hw hP hD hS dX3_isOfKind_24
      · have hw := hw.2 c6
        refine lv_iload_n hx hb dX3_isOfKind_14 rfl (lv_at hl 0 rfl) ?_
        refine lv_iconst (v := 2) hx hb dX3_isOfKind_15 (by decide) ?_
        refine lv_icmp_ne (tgt := 23) hx hb dX3_isOfKind_16 (by decide) (fun c7 => ?_) (fun c8 => ?_)
        · have hw := hw.1 c7
          refine lv_iconst (v := 0) hx hb dX3_isOfKind_23 (by decide) ?_
          exact x_zret (w1 := fun (u : Unit) => (wld_X3_isOfKind cI cJ cZ)) hx hb hr hlocks (by decide) () hw hP hD hS dX3_isOfKind_24
        · have hw := hw.2 c8
          refine lv_iconst (v := 1) hx hb dX3_isOfKind_19 (by decide) ?_
          refine lv_goto (tgt := 24) hx hb dX3_isOfKind_20 (by decide) ?_
          exact x_zret (w1 := fun (u : Unit) => (wld_X3_isOfKind cI cJ cZ)) hx hb hr hlocks (by decide) () hw hP hD hS dX3_isOfKind_24
abbrev wld_X3_kindIn (cI cJ cZ : ClassId) : va_W := []
abbrev q_X3_kindIn (dC : Nat → ClassId) (dI : Nat → Nat → Nat) (cI cJ cZ : ClassId) (post : Int32 → Prop) (A : Nat → Prop) : Array Value → State → Outcome → State → Prop := va_Qi (fun r (u : Unit) => post r ) (fun (u : Unit) t => xPost (dC, dI) A (wld_X3_kindIn cI cJ cZ) t) A
def w_X3_kindIn (a0 : Int64) (a1 : Int32) (post : Int32 → Prop) : Prop :=
  (post ((a0.toUInt64 >>> (((2 : Int32) * a1).toInt64.toUInt64 &&& Int64.toUInt64 63)).toInt64.toInt32 &&& (3 : Int32)))
set_option maxHeartbeats 4000000 in
set_option maxRecDepth 100000 in
theorem c_X3_kindIn {l : Launch} {dC : Nat → ClassId} {dI : Nat → Nat → Nat} {sz : Nat} {cI cJ cZ : ClassId} {a0 : Int64} {a1 : Int32} {post : Int32 → Prop} (hw : w_X3_kindIn a0 a1 post) : Met l yX3_kindIn wsX3_kindIn ({ frames := 0, cells := 0, slots := 0, locals := 0 }) (va_Pc [.long a0, .int a1] (xPre (dC, dI) cI cJ cZ (wld_X3_kindIn cI cJ cZ) sz)) (q_X3_kindIn dC dI cI cJ cZ post (va_A (wld_X3_kindIn cI cJ cZ) sz)) 0 0 (va_A (wld_X3_kindIn cI cJ cZ) sz) := by
  refine x_met (cc := cX3_kindIn) (maxL := 3) (ret := (some .int)) (own := RX3) (Qc := fun A => (q_X3_kindIn dC dI cI cJ cZ post A)) (by decide) rfl rfl (Nat.le_of_ble_eq_true rfl) ?_
  intro p e s m args below meth c A ls E0 hP hD hS hl
  obtain ⟨hx, hb, hr, hml, hown, hts, hlocks, hK, hA, n1, n2⟩ := id E0
  have hS0 := hS
  have hl : lv_has ls 3 [(0, .long a0), (2, .int a1)] := hl
  unfold w_X3_kindIn at hw
  obtain ⟨H, hH⟩ : ∃ H, H = s.heap := ⟨_, rfl⟩
  have hS : va_S A s.heap H [] := by rw [hH]; exact hS
  have hP : va_P (dC, dI) vwCl (wld_X3_kindIn cI cJ cZ) H := by rw [hH]; exact hP
  suffices hG : W p l e ({ frames := 0, cells := 0, slots := 0, locals := 0 }) s m args below meth c H [] 0 0 (MQ below (q_X3_kindIn dC dI cI cJ cZ post A) args s 0 0 A) (F0 m 0 ls []) by rw [hH] at hG; exact hG
  clear hH
  refine lv_lload_n hx hb dX3_kindIn_0 rfl (lv_at hl 0 rfl) ?_
  refine lv_iconst (v := 2) hx hb dX3_kindIn_1 (by decide) ?_
  refine lv_iload_n hx hb dX3_kindIn_2 rfl (lv_at hl 1 rfl) ?_
  refine lv_imul hx hb dX3_kindIn_3 ?_
  refine lv_lushr hx hb dX3_kindIn_4 rfl ?_
  refine lv_l2i hx hb dX3_kindIn_5 rfl ?_
  refine lv_iconst (v := 3) hx hb dX3_kindIn_6 (by decide) ?_
  refine lv_iand hx hb dX3_kindIn_7 ?_
  exact x_iret (w1 := fun (u : Unit) => (wld_X3_kindIn cI cJ cZ)) hx hb hr hlocks () hw hP hD hS dX3_kindIn_8
abbrev wld_X3_manyOf (cI cJ cZ : ClassId) (h_p0 : Nat) (ad_p0 : Nat → Nat) (p0_many : Nat → Int32) (p0_things : Nat → Int64) : va_W := [(h_p0, .inr (3, [.ref (ad_p0 0), .ref (ad_p0 1)])), ((ad_p0 0), .inl (cI, 16, .inl p0_many)), ((ad_p0 1), .inl (cJ, 16, .inr (.inl p0_things)))]
abbrev q_X3_manyOf (dC : Nat → ClassId) (dI : Nat → Nat → Nat) (cI cJ cZ : ClassId) (h_p0 : Nat) (ad_p0 : Nat → Nat) (p0_many : Nat → Int32) (p0_things : Nat → Int64) (post : Int32 → Prop) (A : Nat → Prop) : Array Value → State → Outcome → State → Prop := va_Qi (fun r (u : Unit) => post r ) (fun (u : Unit) t => xPost (dC, dI) A (wld_X3_manyOf cI cJ cZ h_p0 ad_p0 p0_many p0_things) t) A
def w_X3_manyOf_L5b (v1 : Int32) (v2 : Int32) (p0_many : Nat → Int32) (p0_things : Nat → Int64) (post : Int32 → Prop) (K : (Int32) → (Int32) → Prop) (rec : (Int32) → (Int32) → Prop) (v3 : Int32) (v4 : Int32) : Prop :=
    vp_in v1 16 ∧
    ((p0_many v1.toNatClampNeg) ≤ v4 →
      K v3 v4) ∧
    (¬ (p0_many v1.toNatClampNeg) ≤ v4 →
      vp_in v1 16 ∧
      w_X3_kindIn (p0_things v1.toNatClampNeg) v4 (fun r3 =>
      w_X3_isOfKind r3 v2 (fun r4 =>
      (r4 = 0 →
        ∀ x7 : Int32, x7 = (v3 + (0 : Int32)) →
        ∀ x8 : Int32, x8 = v4 + (1 : Int32) →
        rec x7 x8) ∧
      (¬ r4 = 0 →
        ∀ x9 : Int32, x9 = (v3 + (1 : Int32)) →
        ∀ x10 : Int32, x10 = v4 + (1 : Int32) →
        rec x9 x10))))
def w_X3_manyOf_L5 (v1 : Int32) (v2 : Int32) (p0_many : Nat → Int32) (p0_things : Nat → Int64) (post : Int32 → Prop) (K : (Int32) → (Int32) → Prop) : Nat → (Int32) → (Int32) → Prop
  | 0, _, _ => False
  | n + 1, v3, v4 => w_X3_manyOf_L5b v1 v2 p0_many p0_things post K (w_X3_manyOf_L5 v1 v2 p0_many p0_things post K n) v3 v4
def w_X3_manyOf (p0_many : Nat → Int32) (p0_things : Nat → Int64) (a1 : Int32) (a2 : Int32) (post : Int32 → Prop) : Prop :=
  ∃ n : Nat, w_X3_manyOf_L5 a1 a2 p0_many p0_things post (fun v12 v13 =>
      (post v12)) n (0 : Int32) (0 : Int32)
set_option maxHeartbeats 4000000 in
set_option maxRecDepth 100000 in
theorem c_X3_manyOf_L5 {p : Program} {l : Launch} {e : Env} {s : State} {m : MethodId} {args : Array Value} {below : List Frame} {meth : Method} {c : Code} {dC : Nat → ClassId} {dI : Nat → Nat → Nat} {A : Nat → Prop} {cI cJ cZ : ClassId} {h_p0 : Nat} {ad_p0 : Nat → Nat} {p0_many : Nat → Int32} {p0_things : Nat → Int64} {v1 : Int32} {v2 : Int32}  {post : Int32 → Prop} {K : (Int32) → (Int32) → Prop} (E0 : xEnv p s m args meth c cX3_manyOf (some .int) 5 RX3 wsX3_manyOf (dC, dI) cI cJ cZ A) (hk : ∀ (v3 : Int32) (v4 : Int32) (H : Heap) (locs : List Loc) (ls : Array Slot), K v3 v4 → va_P (dC, dI) vwCl (wld_X3_manyOf cI cJ cZ h_p0 ad_p0 p0_many p0_things) H → va_D A (wld_X3_manyOf cI cJ cZ h_p0 ad_p0 p0_many p0_things) → va_S A s.heap H locs → lv_has ls 5 [(3, .int v3)] → W p l e ({ frames := 1, cells := 0, slots := 0, locals := 22 }) s m args below meth c H locs 0 0 (MQ below (q_X3_manyOf dC dI cI cJ cZ h_p0 ad_p0 p0_many p0_things post A) args s 0 0 A) (F0 m 48 ls [])) : ∀ (n : Nat) (v3 : Int32) (v4 : Int32), w_X3_manyOf_L5 v1 v2 p0_many p0_things post K n v3 v4 → ∀ (H : Heap) (locs : List Loc) (ls : Array Slot), va_P (dC, dI) vwCl (wld_X3_manyOf cI cJ cZ h_p0 ad_p0 p0_many p0_things) H → va_D A (wld_X3_manyOf cI cJ cZ h_p0 ad_p0 p0_many p0_things) → va_S A s.heap H locs → lv_has ls 5 [(0, .ref h_p0), (1, .int v1), (2, .int v2), (3, .int v3), (4, .int v4)] → W p l e ({ frames := 1, cells := 0, slots := 0, locals := 22 }) s m args below meth c H locs 0 0 (MQ below (q_X3_manyOf dC dI cI cJ cZ h_p0 ad_p0 p0_many p0_things post A) args s 0 0 A) (F0 m 5 ls []) := by
  obtain ⟨hx, hb, hr, hml, hown, hts, hlocks, hK, hA, n1, n2⟩ := id E0
  have iX3 : ∀ w ∈ u_ws RX3 TX3 2, w ∈ wsX3_manyOf := fun w h => List.mem_cons_of_mem _ (List.mem_append_right _ h)
  intro n
  induction n with
  | zero => intro v3 v4 hw; exact hw.elim
  | succ n ih =>
    intro v3 v4 hw H locs ls hP hD hS hl
    have hw : w_X3_manyOf_L5b v1 v2 p0_many p0_things post K (w_X3_manyOf_L5 v1 v2 p0_many p0_things post K n) v3 v4 := hw
    unfold w_X3_manyOf_L5b at hw
    refine lv_iload hx hb dX3_manyOf_5 (lv_at hl 4 rfl) ?_
    refine lv_aload_n hx hb dX3_manyOf_7 rfl (lv_at hl 0 rfl) ?_
    refine va_get (D := (dC, dI)) (ci := 3) (v := .ref (ad_p0 0)) (C := RX3) (T := TX3) (N := 2) hx hb hts iX3 hown hK hP 0 rfl rfl 0 (by decide) (hts (.fieldLink RX3 9 "NetHouse$Holding" "many" "[I") (by decide +kernel)) (fun _ h9 => h9) rfl dX3_manyOf_8 ?_
    refine lv_iload_n hx hb dX3_manyOf_11 rfl (lv_at hl 1 rfl) ?_
    refine va_iald hx hb hK hP 1 0 rfl rfl hw.1 dX3_manyOf_12 ?_
    have hw := hw.2
    refine lv_icmp_ge (tgt := 48) hx hb dX3_manyOf_13 (by decide) (fun c1 => ?_) (fun c2 => ?_)
    · have hw := hw.1 c1
      exact hk _ _ _ _ _ hw hP hD hS (lv_sub hl [3] rfl)
    · have hw := hw.2 c2
      refine lv_iload_n hx hb dX3_manyOf_16 rfl (lv_at hl 3 rfl) ?_
      refine lv_aload_n hx hb dX3_manyOf_17 rfl (lv_at hl 0 rfl) ?_
      refine va_get (D := (dC, dI)) (ci := 3) (v := .ref (ad_p0 1)) (C := RX3) (T := TX3) (N := 2) hx hb hts iX3 hown hK hP 0 rfl rfl 1 (by decide) (hts (.fieldLink RX3 15 "NetHouse$Holding" "things" "[J") (by decide +kernel)) (fun _ h9 => h9) rfl dX3_manyOf_18 ?_
      refine lv_iload_n hx hb dX3_manyOf_21 rfl (lv_at hl 1 rfl) ?_
      refine va_lald hx hb hK hP 2 1 rfl rfl hw.1 dX3_manyOf_22 ?_
      have hw := hw.2
      refine lv_iload hx hb dX3_manyOf_23 (lv_at hl 4 rfl) ?_
      obtain ⟨hPc, hDc⟩ := x_sub (wc := (wld_X3_kindIn cI cJ cZ )) hP hD [] (n := 3) rfl rfl (by decide +kernel)
      refine x_calli (ws' := fun (u : Unit) => (wld_X3_manyOf cI cJ cZ h_p0 ad_p0 p0_many p0_things)) hP hD hS hA [] [0, 1, 2] [0, 1, 2] (n := 3) (k := 0) rfl (fun _ => rfl) rfl (by decide +kernel) (fun _ => rfl) (va_runS (As := [.long (p0_things v1.toNatClampNeg), .int v4]) (rest := [.int v3]) ⟨hx, hb, hml, hown, hts⟩ (c_X3_kindIn (l := l) (dC := dC) (dI := dI) (cI := cI) (cJ := cJ) (cZ := cZ) (sz := H.size) hw) (va_cwS 2 hts gX3_manyOf_X3_kindIn rfl rfl rfl (by decide +kernel) ⟨Nat.le_of_ble_eq_true rfl, Nat.le_of_ble_eq_true rfl⟩) ⟨xPre_blind, xPre_at hK hPc hDc n1 n2⟩ rfl rfl hl.1 rfl (lv_room (Nat.le_of_ble_eq_true rfl)) dX3_manyOf_25 ⟨Nat.zero_le _, Nat.zero_le _⟩) (fun r3 u H locs hw hP hD hS => ?_)
      try dsimp only at hw
      have hP : va_P (dC, dI) vwCl (wld_X3_manyOf cI cJ cZ h_p0 ad_p0 p0_many p0_things) H := hP
      have hD : va_D A (wld_X3_manyOf cI cJ cZ h_p0 ad_p0 p0_many p0_things) := hD
      refine lv_iload_n hx hb dX3_manyOf_28 rfl (lv_at hl 2 rfl) ?_
      obtain ⟨hPc, hDc⟩ := x_sub (wc := (wld_X3_isOfKind cI cJ cZ )) hP hD [] (n := 3) rfl rfl (by decide +kernel)
      refine x_calli (ws' := fun (u : Unit) => (wld_X3_manyOf cI cJ cZ h_p0 ad_p0 p0_many p0_things)) hP hD hS hA [] [0, 1, 2] [0, 1, 2] (n := 3) (k := 0) rfl (fun _ => rfl) rfl (by decide +kernel) (fun _ => rfl) (va_runS (As := [.int r3, .int v2]) (rest := [.int v3]) ⟨hx, hb, hml, hown, hts⟩ (c_X3_isOfKind (l := l) (dC := dC) (dI := dI) (cI := cI) (cJ := cJ) (cZ := cZ) (sz := H.size) hw) (va_cwS 2 hts gX3_manyOf_X3_isOfKind rfl rfl rfl (by decide +kernel) ⟨Nat.le_of_ble_eq_true rfl, Nat.le_of_ble_eq_true rfl⟩) ⟨xPre_blind, xPre_at hK hPc hDc n1 n2⟩ rfl rfl hl.1 rfl (lv_room (Nat.le_of_ble_eq_true rfl)) dX3_manyOf_29 ⟨Nat.zero_le _, Nat.zero_le _⟩) (fun r4 u H locs hw hP hD hS => ?_)
      try dsimp only at hw
      have hP : va_P (dC, dI) vwCl (wld_X3_manyOf cI cJ cZ h_p0 ad_p0 p0_many p0_things) H := hP
      have hD : va_D A (wld_X3_manyOf cI cJ cZ h_p0 ad_p0 p0_many p0_things) := hD
      refine lv_if_eq (tgt := 39) hx hb dX3_manyOf_32 (by decide) (fun c5 => ?_) (fun c6 => ?_)
      · have hw := hw.1 c5
        refine lv_iconst (v := 0) hx hb dX3_manyOf_39 (by decide) ?_
        refine lv_iadd hx hb dX3_manyOf_40 ?_
        refine lv_topi (fun x7 ex7 => ?_)
        have hw := hw x7 ex7
        refine lv_istore_n (lv' := [(3, .int x7), (0, .ref h_p0), (1, .int v1), (2, .int v2), (4, .int v4)]) hx hb dX3_manyOf_41 rfl hl (by decide) rfl (fun ls hl => ?_)
        obtain ⟨x8, ex8⟩ : ∃ y : Int32, y = v4 + (1 : Int32) := ⟨_, rfl⟩
        have hw := hw x8 ex8
        refine lv_iinc (v := x8) (lv' := [(4, .int x8), (3, .int x7), (0, .ref h_p0), (1, .int v1), (2, .int v2)]) hx hb dX3_manyOf_42 hl (k := 4) rfl (by rw [ex8]; rfl) (by decide) rfl (fun ls hl => ?_)
        refine lv_goto (tgt := 5) hx hb dX3_manyOf_45 (by decide) ?_
        exact ih _ _ hw _ _ _ hP hD hS (lv_sub hl [2, 3, 4, 1, 0] rfl)
      · have hw := hw.2 c6
        refine lv_iconst (v := 1) hx hb dX3_manyOf_35 (by decide) ?_
        refine lv_goto (tgt := 40) hx hb dX3_manyOf_36 (by decide) ?_
        refine lv_iadd hx hb dX3_manyOf_40 ?_
        refine lv_topi (fun x9 ex9 => ?_)
        have hw := hw x9 ex9
        refine lv_istore_n (lv' := [(3, .int x9), (0, .ref h_p0), (1, .int v1), (2, .int v2), (4, .int v4)]) hx hb dX3_manyOf_41 rfl hl (by decide) rfl (fun ls hl => ?_)
        obtain ⟨x10, ex10⟩ : ∃ y : Int32, y = v4 + (1 : Int32) := ⟨_, rfl⟩
        have hw := hw x10 ex10
        refine lv_iinc (v := x10) (lv' := [(4, .int x10), (3, .int x9), (0, .ref h_p0), (1, .int v1), (2, .int v2)]) hx hb dX3_manyOf_42 hl (k := 4) rfl (by rw [ex10]; rfl) (by decide) rfl (fun ls hl => ?_)
        refine lv_goto (tgt := 5) hx hb dX3_manyOf_45 (by decide) ?_
        exact ih _ _ hw _ _ _ hP hD hS (lv_sub hl [2, 3, 4, 1, 0] rfl)
set_option maxHeartbeats 4000000 in
set_option maxRecDepth 100000 in
theorem c_X3_manyOf {l : Launch} {dC : Nat → ClassId} {dI : Nat → Nat → Nat} {sz : Nat} {cI cJ cZ : ClassId} {h_p0 : Nat} {ad_p0 : Nat → Nat} {p0_many : Nat → Int32} {p0_things : Nat → Int64} {a1 : Int32} {a2 : Int32} {post : Int32 → Prop} (hw : w_X3_manyOf p0_many p0_things a1 a2 post) : Met l yX3_manyOf wsX3_manyOf ({ frames := 1, cells := 0, slots := 0, locals := 22 }) (va_Pc [.ref h_p0, .int a1, .int a2] (xPre (dC, dI) cI cJ cZ (wld_X3_manyOf cI cJ cZ h_p0 ad_p0 p0_many p0_things) sz)) (q_X3_manyOf dC dI cI cJ cZ h_p0 ad_p0 p0_many p0_things post (va_A (wld_X3_manyOf cI cJ cZ h_p0 ad_p0 p0_many p0_things) sz)) 0 0 (va_A (wld_X3_manyOf cI cJ cZ h_p0 ad_p0 p0_many p0_things) sz) := by
  refine x_met (cc := cX3_manyOf) (maxL := 5) (ret := (some .int)) (own := RX3) (Qc := fun A => (q_X3_manyOf dC dI cI cJ cZ h_p0 ad_p0 p0_many p0_things post A)) (by decide) rfl rfl (Nat.le_of_ble_eq_true rfl) ?_
  intro p e s m args below meth c A ls E0 hP hD hS hl
  obtain ⟨hx, hb, hr, hml, hown, hts, hlocks, hK, hA, n1, n2⟩ := id E0
  have iX3 : ∀ w ∈ u_ws RX3 TX3 2, w ∈ wsX3_manyOf := fun w h => List.mem_cons_of_mem _ (List.mem_append_right _ h)
  have hS0 := hS
  have hl : lv_has ls 5 [(0, .ref h_p0), (1, .int a1), (2, .int a2)] := hl
  unfold w_X3_manyOf at hw
  obtain ⟨H, hH⟩ : ∃ H, H = s.heap := ⟨_, rfl⟩
  have hS : va_S A s.heap H [] := by rw [hH]; exact hS
  have hP : va_P (dC, dI) vwCl (wld_X3_manyOf cI cJ cZ h_p0 ad_p0 p0_many p0_things) H := by rw [hH]; exact hP
  suffices hG : W p l e ({ frames := 1, cells := 0, slots := 0, locals := 22 }) s m args below meth c H [] 0 0 (MQ below (q_X3_manyOf dC dI cI cJ cZ h_p0 ad_p0 p0_many p0_things post A) args s 0 0 A) (F0 m 0 ls []) by rw [hH] at hG; exact hG
  clear hH
  refine lv_iconst (v := 0) hx hb dX3_manyOf_0 (by decide) ?_
  refine lv_istore_n (lv' := [(3, .int (0 : Int32)), (0, .ref h_p0), (1, .int a1), (2, .int a2)]) hx hb dX3_manyOf_1 rfl hl (by decide) rfl (fun ls hl => ?_)
  refine lv_iconst (v := 0) hx hb dX3_manyOf_2 (by decide) ?_
  refine lv_istore (lv' := [(4, .int (0 : Int32)), (3, .int (0 : Int32)), (0, .ref h_p0), (1, .int a1), (2, .int a2)]) hx hb dX3_manyOf_3 hl (by decide) rfl (fun ls hl => ?_)
  obtain ⟨n11, hw⟩ := hw
  refine c_X3_manyOf_L5 (l := l)  E0 ?_ n11 _ _ hw _ _ _ hP hD hS (lv_sub hl [2, 3, 4, 1, 0] rfl)
  · intro v12 v13 H locs ls hw hP hD hS hl
    have hP : va_P (dC, dI) vwCl (wld_X3_manyOf cI cJ cZ h_p0 ad_p0 p0_many p0_things) H := hP
    have hD : va_D A (wld_X3_manyOf cI cJ cZ h_p0 ad_p0 p0_many p0_things) := hD
    refine lv_iload_n hx hb dX3_manyOf_48 rfl (lv_at hl 0 rfl) ?_
    exact x_iret (w1 := fun (u : Unit) => (wld_X3_manyOf cI cJ cZ h_p0 ad_p0 p0_many p0_things)) hx hb hr hlocks () hw hP hD hS dX3_manyOf_49
abbrev wld_X5_isColoured (cI cJ cZ : ClassId) (h_p0 : Nat) (ad_p0 : Nat → Nat) (p0_places : Int32) (p0_steps : Int32) (p0_coloured : Int32) (p0_placeKinds : Nat → Int32) : va_W := [(h_p0, .inr (5, [.ref (ad_p0 0), .ref (ad_p0 1), .ref (ad_p0 2), .ref (ad_p0 3), .ref (ad_p0 4), .ref (ad_p0 5), .ref (ad_p0 6), .ref (ad_p0 7), .ref (ad_p0 8), .ref (ad_p0 9), .ref (ad_p0 10), .int p0_places, .int p0_steps, .int p0_coloured])), ((ad_p0 0), .inl (cI, 16, .inl p0_placeKinds))]
abbrev q_X5_isColoured (dC : Nat → ClassId) (dI : Nat → Nat → Nat) (cI cJ cZ : ClassId) (h_p0 : Nat) (ad_p0 : Nat → Nat) (p0_places : Int32) (p0_steps : Int32) (p0_coloured : Int32) (p0_placeKinds : Nat → Int32) (post : Int32 → Prop) (A : Nat → Prop) : Array Value → State → Outcome → State → Prop := va_Qi (fun r (u : Unit) => post r ) (fun (u : Unit) t => xPost (dC, dI) A (wld_X5_isColoured cI cJ cZ h_p0 ad_p0 p0_places p0_steps p0_coloured p0_placeKinds) t) A
def w_X5_isColoured (p0_placeKinds : Nat → Int32) (a1 : Int32) (post : Int32 → Prop) : Prop :=
  vp_in a1 16 ∧
  (¬ (p0_placeKinds a1.toNatClampNeg) = (1 : Int32) →
    (post (0 : Int32))) ∧
  ((p0_placeKinds a1.toNatClampNeg) = (1 : Int32) →
    (post (1 : Int32)))
set_option maxHeartbeats 4000000 in
set_option maxRecDepth 100000 in
theorem c_X5_isColoured {l : Launch} {dC : Nat → ClassId} {dI : Nat → Nat → Nat} {sz : Nat} {cI cJ cZ : ClassId} {h_p0 : Nat} {ad_p0 : Nat → Nat} {p0_places : Int32} {p0_steps : Int32} {p0_coloured : Int32} {p0_placeKinds : Nat → Int32} {a1 : Int32} {post : Int32 → Prop} (hw : w_X5_isColoured p0_placeKinds a1 post) : Met l yX5_isColoured wsX5_isColoured ({ frames := 0, cells := 0, slots := 0, locals := 0 }) (va_Pc [.ref h_p0, .int a1] (xPre (dC, dI) cI cJ cZ (wld_X5_isColoured cI cJ cZ h_p0 ad_p0 p0_places p0_steps p0_coloured p0_placeKinds) sz)) (q_X5_isColoured dC dI cI cJ cZ h_p0 ad_p0 p0_places p0_steps p0_coloured p0_placeKinds post (va_A (wld_X5_isColoured cI cJ cZ h_p0 ad_p0 p0_places p0_steps p0_coloured p0_placeKinds) sz)) 0 0 (va_A (wld_X5_isColoured cI cJ cZ h_p0 ad_p0 p0_places p0_steps p0_coloured p0_placeKinds) sz) := by
  refine x_met (cc := cX5_isColoured) (maxL := 2) (ret := (some .boolean)) (own := RX5) (Qc := fun A => (q_X5_isColoured dC dI cI cJ cZ h_p0 ad_p0 p0_places p0_steps p0_coloured p0_placeKinds post A)) (by decide) rfl rfl (Nat.le_of_ble_eq_true rfl) ?_
  intro p e s m args below meth c A ls E0 hP hD hS hl
  obtain ⟨hx, hb, hr, hml, hown, hts, hlocks, hK, hA, n1, n2⟩ := id E0
  have iX5 : ∀ w ∈ u_ws RX5 TX5 14, w ∈ wsX5_isColoured := fun w h => List.mem_cons_of_mem _ (List.mem_append_right _ h)
  have hS0 := hS
  have hl : lv_has ls 2 [(0, .ref h_p0), (1, .int a1)] := hl
  unfold w_X5_isColoured at hw
  obtain ⟨H, hH⟩ : ∃ H, H = s.heap := ⟨_, rfl⟩
  have hS : va_S A s.heap H [] := by rw [hH]; exact hS
  have hP : va_P (dC, dI) vwCl (wld_X5_isColoured cI cJ cZ h_p0 ad_p0 p0_places p0_steps p0_coloured p0_placeKinds) H := by rw [hH]; exact hP
  suffices hG : W p l e ({ frames := 0, cells := 0, slots := 0, locals := 0 }) s m args below meth c H [] 0 0 (MQ below (q_X5_isColoured dC dI cI cJ cZ h_p0 ad_p0 p0_places p0_steps p0_coloured p0_placeKinds post A) args s 0 0 A) (F0 m 0 ls []) by rw [hH] at hG; exact hG
  clear hH
  refine lv_aload_n hx hb dX5_isColoured_0 rfl (lv_at hl 0 rfl) ?_
  refine va_get (D := (dC, dI)) (ci := 5) (v := .ref (ad_p0 0)) (C := RX5) (T := TX5) (N := 14) hx hb hts iX5 hown hK hP 0 rfl rfl 0 (by decide) (hts (.fieldLink RX5 9 "NetHouse$Net" "placeKinds" "[I") (by decide +kernel)) (fun _ h9 => h9) rfl dX5_isColoured_1 ?_
  refine lv_iload_n hx hb dX5_isColoured_4 rfl (lv_at hl 1 rfl) ?_
  refine va_iald hx hb hK hP 1 0 rfl rfl hw.1 dX5_isColoured_5 ?_
  have hw := hw.2
  refine lv_iconst (v := 1) hx hb dX5_isColoured_6 (by decide) ?_
  refine lv_icmp_ne (tgt := 14) hx hb dX5_isColoured_7 (by decide) (fun c1 => ?_) (fun c2 => ?_)
  · have hw := hw.1 c1
    refine lv_iconst (v := 0) hx hb dX5_isColoured_14 (by decide) ?_
    exact x_zret (w1 := fun (u : Unit) => (wld_X5_isColoured cI cJ cZ h_p0 ad_p0 p0_places p0_steps p0_coloured p0_placeKinds)) hx hb hr hlocks (by decide) () hw hP hD hS dX5_isColoured_15
  · have hw := hw.2 c2
    refine lv_iconst (v := 1) hx hb dX5_isColoured_10 (by decide) ?_
    refine lv_goto (tgt := 15) hx hb dX5_isColoured_11 (by decide) ?_
    exact x_zret (w1 := fun (u : Unit) => (wld_X5_isColoured cI cJ cZ h_p0 ad_p0 p0_places p0_steps p0_coloured p0_placeKinds)) hx hb hr hlocks (by decide) () hw hP hD hS dX5_isColoured_15
abbrev wld_X5_allows (cI cJ cZ : ClassId) (h_p0 : Nat) (h_p1 : Nat) (ad_p0 : Nat → Nat) (ad_p1 : Nat → Nat) (p0_places : Int32) (p0_steps : Int32) (p0_coloured : Int32) (p0_closed : Nat → Int32) (p0_heeds : Nat → Int32) (p0_needs : Nat → Int32) (p0_placeKinds : Nat → Int32) (p0_takes : Nat → Int32) (p0_wants : Nat → Int32) (p1_many : Nat → Int32) (p1_things : Nat → Int64) : va_W := [(h_p0, .inr (5, [.ref (ad_p0 0), .ref (ad_p0 1), .ref (ad_p0 2), .ref (ad_p0 3), .ref (ad_p0 4), .ref (ad_p0 5), .ref (ad_p0 6), .ref (ad_p0 7), .ref (ad_p0 8), .ref (ad_p0 9), .ref (ad_p0 10), .int p0_places, .int p0_steps, .int p0_coloured])), ((ad_p0 5), .inl (cI, 256, .inl p0_closed)), ((ad_p0 10), .inl (cI, 16, .inl p0_heeds)), ((ad_p0 4), .inl (cI, 256, .inl p0_needs)), ((ad_p0 0), .inl (cI, 16, .inl p0_placeKinds)), ((ad_p0 2), .inl (cI, 256, .inl p0_takes)), ((ad_p0 6), .inl (cI, 256, .inl p0_wants)), (h_p1, .inr (3, [.ref (ad_p1 0), .ref (ad_p1 1)])), ((ad_p1 0), .inl (cI, 16, .inl p1_many)), ((ad_p1 1), .inl (cJ, 16, .inr (.inl p1_things)))]
abbrev q_X5_allows (dC : Nat → ClassId) (dI : Nat → Nat → Nat) (cI cJ cZ : ClassId) (h_p0 : Nat) (h_p1 : Nat) (ad_p0 : Nat → Nat) (ad_p1 : Nat → Nat) (p0_places : Int32) (p0_steps : Int32) (p0_coloured : Int32) (p0_closed : Nat → Int32) (p0_heeds : Nat → Int32) (p0_needs : Nat → Int32) (p0_placeKinds : Nat → Int32) (p0_takes : Nat → Int32) (p0_wants : Nat → Int32) (p1_many : Nat → Int32) (p1_things : Nat → Int64) (post : Int32 → Prop) (A : Nat → Prop) : Array Value → State → Outcome → State → Prop := va_Qi (fun r (u : Unit) => post r ) (fun (u : Unit) t => xPost (dC, dI) A (wld_X5_allows cI cJ cZ h_p0 h_p1 ad_p0 ad_p1 p0_places p0_steps p0_coloured p0_closed p0_heeds p0_needs p0_placeKinds p0_takes p0_wants p1_many p1_things) t) A
def w_X5_allows_L10b (v2 : Int32) (v3 : Int32) (p0_places : Int32) (p0_closed : Nat → Int32) (p0_heeds : Nat → Int32) (p0_needs : Nat → Int32) (p0_placeKinds : Nat → Int32) (p0_takes : Nat → Int32) (p0_wants : Nat → Int32) (p1_many : Nat → Int32) (p1_things : Nat → Int64) (post : Int32 → Prop) (K : (Int32) → Prop) (rec : (Int32) → Prop) (v4 : Int32) : Prop :=
    (p0_places ≤ v4 →
      K v4) ∧
    (¬ p0_places ≤ v4 →
      ((v3 >>> (v4 &&& 31)) = 0 →
        K v4) ∧
      (¬ (v3 >>> (v4 &&& 31)) = 0 →
        (¬ ((v3 >>> (v4 &&& 31)) &&& (1 : Int32)) = 0 →
          w_X9_crossing v2 v4 (fun r8 =>
          vp_in v4 16 ∧
          ∀ x9 : Int32, x9 = (p1_many v4.toNatClampNeg) →
          vp_in r8 256 ∧
          (x9 < (p0_takes r8.toNatClampNeg) →
            (post (0 : Int32))) ∧
          (¬ x9 < (p0_takes r8.toNatClampNeg) →
            vp_in r8 256 ∧
            (x9 < (p0_needs r8.toNatClampNeg) →
              (post (0 : Int32))) ∧
            (¬ x9 < (p0_needs r8.toNatClampNeg) →
              (x9 ≤ 0 →
                vp_in r8 256 ∧
                ((p0_takes r8.toNatClampNeg) ≤ 0 →
                  ∀ x18 : Int32, x18 = v4 + (1 : Int32) →
                  rec x18) ∧
                (¬ (p0_takes r8.toNatClampNeg) ≤ 0 →
                  w_X5_isColoured p0_placeKinds v4 (fun r19 =>
                  (r19 = 0 →
                    ∀ x22 : Int32, x22 = v4 + (1 : Int32) →
                    rec x22) ∧
                  (¬ r19 = 0 →
                    vp_in r8 256 ∧
                    w_X3_manyOf p1_many p1_things v4 (p0_wants r8.toNatClampNeg) (fun r23 =>
                    vp_in r8 256 ∧
                    ((p0_takes r8.toNatClampNeg) ≤ r23 →
                      ∀ x26 : Int32, x26 = v4 + (1 : Int32) →
                      rec x26) ∧
                    (¬ (p0_takes r8.toNatClampNeg) ≤ r23 →
                      (post (0 : Int32)))))))) ∧
              (¬ x9 ≤ 0 →
                vp_in r8 256 ∧
                (¬ (p0_closed r8.toNatClampNeg) = (1 : Int32) →
                  vp_in r8 256 ∧
                  ((p0_takes r8.toNatClampNeg) ≤ 0 →
                    ∀ x31 : Int32, x31 = v4 + (1 : Int32) →
                    rec x31) ∧
                  (¬ (p0_takes r8.toNatClampNeg) ≤ 0 →
                    w_X5_isColoured p0_placeKinds v4 (fun r32 =>
                    (r32 = 0 →
                      ∀ x35 : Int32, x35 = v4 + (1 : Int32) →
                      rec x35) ∧
                    (¬ r32 = 0 →
                      vp_in r8 256 ∧
                      w_X3_manyOf p1_many p1_things v4 (p0_wants r8.toNatClampNeg) (fun r36 =>
                      vp_in r8 256 ∧
                      ((p0_takes r8.toNatClampNeg) ≤ r36 →
                        ∀ x39 : Int32, x39 = v4 + (1 : Int32) →
                        rec x39) ∧
                      (¬ (p0_takes r8.toNatClampNeg) ≤ r36 →
                        (post (0 : Int32)))))))) ∧
                ((p0_closed r8.toNatClampNeg) = (1 : Int32) →
                  (post (0 : Int32)))))))) ∧
        (((v3 >>> (v4 &&& 31)) &&& (1 : Int32)) = 0 →
          ∀ x40 : Int32, x40 = v4 + (1 : Int32) →
          rec x40)))
def w_X5_allows_L10 (v2 : Int32) (v3 : Int32) (p0_places : Int32) (p0_closed : Nat → Int32) (p0_heeds : Nat → Int32) (p0_needs : Nat → Int32) (p0_placeKinds : Nat → Int32) (p0_takes : Nat → Int32) (p0_wants : Nat → Int32) (p1_many : Nat → Int32) (p1_things : Nat → Int64) (post : Int32 → Prop) (K : (Int32) → Prop) : Nat → (Int32) → Prop
  | 0, _ => False
  | n + 1, v4 => w_X5_allows_L10b v2 v3 p0_places p0_closed p0_heeds p0_needs p0_placeKinds p0_takes p0_wants p1_many p1_things post K (w_X5_allows_L10 v2 v3 p0_places p0_closed p0_heeds p0_needs p0_placeKinds p0_takes p0_wants p1_many p1_things post K n) v4
def w_X5_allows (p0_places : Int32) (p0_closed : Nat → Int32) (p0_heeds : Nat → Int32) (p0_needs : Nat → Int32) (p0_placeKinds : Nat → Int32) (p0_takes : Nat → Int32) (p0_wants : Nat → Int32) (p1_many : Nat → Int32) (p1_things : Nat → Int64) (a2 : Int32) (post : Int32 → Prop) : Prop :=
  vp_in a2 16 ∧
  ∀ x1 : Int32, x1 = (p0_heeds a2.toNatClampNeg) →
  ∃ n : Nat, w_X5_allows_L10 a2 x1 p0_places p0_closed p0_heeds p0_needs p0_placeKinds p0_takes p0_wants p1_many p1_things post (fun v42 =>
      (post (1 : Int32))) n (0 : Int32)
set_option maxHeartbeats 4000000 in
set_option maxRecDepth 100000 in
theorem c_X5_allows_L10 {p : Program} {l : Launch} {e : Env} {s : State} {m : MethodId} {args : Array Value} {below : List Frame} {meth : Method} {c : Code} {dC : Nat → ClassId} {dI : Nat → Nat → Nat} {A : Nat → Prop} {cI cJ cZ : ClassId} {h_p0 : Nat} {h_p1 : Nat} {ad_p0 : Nat → Nat} {ad_p1 : Nat → Nat} {p0_places : Int32} {p0_steps : Int32} {p0_coloured : Int32} {p0_closed : Nat → Int32} {p0_heeds : Nat → Int32} {p0_needs : Nat → Int32} {p0_placeKinds : Nat → Int32} {p0_takes : Nat → Int32} {p0_wants : Nat → Int32} {p1_many : Nat → Int32} {p1_things : Nat → Int64} {v2 : Int32} {v3 : Int32}  {post : Int32 → Prop} {K : (Int32) → Prop} (E0 : xEnv p s m args meth c cX5_allows (some .boolean) 7 RX5 wsX5_allows (dC, dI) cI cJ cZ A) (hk : ∀ (v4 : Int32) (H : Heap) (locs : List Loc) (ls : Array Slot), K v4 → va_P (dC, dI) vwCl (wld_X5_allows cI cJ cZ h_p0 h_p1 ad_p0 ad_p1 p0_places p0_steps p0_coloured p0_closed p0_heeds p0_needs p0_placeKinds p0_takes p0_wants p1_many p1_things) H → va_D A (wld_X5_allows cI cJ cZ h_p0 h_p1 ad_p0 ad_p1 p0_places p0_steps p0_coloured p0_closed p0_heeds p0_needs p0_placeKinds p0_takes p0_wants p1_many p1_things) → va_S A s.heap H locs → lv_has ls 7 [] → W p l e ({ frames := 2, cells := 0, slots := 0, locals := 46 }) s m args below meth c H locs 0 0 (MQ below (q_X5_allows dC dI cI cJ cZ h_p0 h_p1 ad_p0 ad_p1 p0_places p0_steps p0_coloured p0_closed p0_heeds p0_needs p0_placeKinds p0_takes p0_wants p1_many p1_things post A) args s 0 0 A) (F0 m 147 ls [])) : ∀ (n : Nat) (v4 : Int32), w_X5_allows_L10 v2 v3 p0_places p0_closed p0_heeds p0_needs p0_placeKinds p0_takes p0_wants p1_many p1_things post K n v4 → ∀ (H : Heap) (locs : List Loc) (ls : Array Slot), va_P (dC, dI) vwCl (wld_X5_allows cI cJ cZ h_p0 h_p1 ad_p0 ad_p1 p0_places p0_steps p0_coloured p0_closed p0_heeds p0_needs p0_placeKinds p0_takes p0_wants p1_many p1_things) H → va_D A (wld_X5_allows cI cJ cZ h_p0 h_p1 ad_p0 ad_p1 p0_places p0_steps p0_coloured p0_closed p0_heeds p0_needs p0_placeKinds p0_takes p0_wants p1_many p1_things) → va_S A s.heap H locs → lv_has ls 7 [(0, .ref h_p0), (1, .ref h_p1), (2, .int v2), (3, .int v3), (4, .int v4)] → W p l e ({ frames := 2, cells := 0, slots := 0, locals := 46 }) s m args below meth c H locs 0 0 (MQ below (q_X5_allows dC dI cI cJ cZ h_p0 h_p1 ad_p0 ad_p1 p0_places p0_steps p0_coloured p0_closed p0_heeds p0_needs p0_placeKinds p0_takes p0_wants p1_many p1_things post A) args s 0 0 A) (F0 m 10 ls []) := by
  obtain ⟨hx, hb, hr, hml, hown, hts, hlocks, hK, hA, n1, n2⟩ := id E0
  have iX3 : ∀ w ∈ u_ws RX3 TX3 2, w ∈ wsX5_allows := fun w h => List.mem_cons_of_mem _ (List.mem_append_right _ h)
  have iX5 : ∀ w ∈ u_ws RX5 TX5 14, w ∈ wsX5_allows := fun w h => List.mem_cons_of_mem _ (List.mem_append_left _ (List.mem_append_right _ h))
  intro n
  induction n with
  | zero => intro v4 hw; exact hw.elim
  | succ n ih =>
    intro v4 hw H locs ls hP hD hS hl
    have hw : w_X5_allows_L10b v2 v3 p0_places p0_closed p0_heeds p0_needs p0_placeKinds p0_takes p0_wants p1_many p1_things post K (w_X5_allows_L10 v2 v3 p0_places p0_closed p0_heeds p0_needs p0_placeKinds p0_takes p0_wants p1_many p1_things post K n) v4 := hw
    unfold w_X5_allows_L10b at hw
    refine lv_iload hx hb dX5_allows_10 (lv_at hl 4 rfl) ?_
    refine lv_aload_n hx hb dX5_allows_12 rfl (lv_at hl 0 rfl) ?_
    refine va_get (D := (dC, dI)) (ci := 5) (v := .int p0_places) (C := RX5) (T := TX5) (N := 14) hx hb hts iX5 hown hK hP 0 rfl rfl 11 (by decide) (hts (.fieldLink RX5 45 "NetHouse$Net" "places" "I") (by decide +kernel)) (fun _ h9 => h9) rfl dX5_allows_13 ?_
    refine lv_icmp_ge (tgt := 147) hx hb dX5_allows_16 (by decide) (fun c2 => ?_) (fun c3 => ?_)
    · have hw := hw.1 c2
      exact hk _ _ _ _ hw hP hD hS (lv_sub hl [] rfl)
    · have hw := hw.2 c3
      refine lv_iload_n hx hb dX5_allows_19 rfl (lv_at hl 3 rfl) ?_
      refine lv_iload hx hb dX5_allows_20 (lv_at hl 4 rfl) ?_
      refine lv_ishr hx hb dX5_allows_22 ?_
      refine lv_if_eq (tgt := 147) hx hb dX5_allows_23 (by decide) (fun c4 => ?_) (fun c5 => ?_)
      · have hw := hw.1 c4
        exact hk _ _ _ _ hw hP hD hS (lv_sub hl [] rfl)
      · have hw := hw.2 c5
        refine lv_iload_n hx hb dX5_allows_26 rfl (lv_at hl 3 rfl) ?_
        refine lv_iload hx hb dX5_allows_27 (lv_at hl 4 rfl) ?_
        refine lv_ishr hx hb dX5_allows_29 ?_
        refine lv_iconst (v := 1) hx hb dX5_allows_30 (by decide) ?_
        refine lv_iand hx hb dX5_allows_31 ?_
        refine lv_if_ne (tgt := 38) hx hb dX5_allows_32 (by decide) (fun c6 => ?_) (fun c7 => ?_)
        · have hw := hw.1 c6
          refine lv_iload_n hx hb dX5_allows_38 rfl (lv_at hl 2 rfl) ?_
          refine lv_iload hx hb dX5_allows_39 (lv_at hl 4 rfl) ?_
          obtain ⟨hPc, hDc⟩ := x_sub (wc := (wld_X9_crossing cI cJ cZ )) hP hD [] (n := 10) rfl rfl (by decide +kernel)
          refine x_calli (ws' := fun (u : Unit) => (wld_X5_allows cI cJ cZ h_p0 h_p1 ad_p0 ad_p1 p0_places p0_steps p0_coloured p0_closed p0_heeds p0_needs p0_placeKinds p0_takes p0_wants p1_many p1_things)) hP hD hS hA [] [0, 1, 2, 3, 4, 5, 6, 7, 8, 9] [0, 1, 2, 3, 4, 5, 6, 7, 8, 9] (n := 10) (k := 0) rfl (fun _ => rfl) rfl (by decide +kernel) (fun _ => rfl) (va_runSN (As := [.int v2, .int v4]) (rest := []) ⟨hx, hb, hml, hown, hts⟩ (c_X9_crossing (l := l) (dC := dC) (dI := dI) (cI := cI) (cJ := cJ) (cZ := cZ) (sz := H.size) hw) ⟨va_cnB (host := RX9) 2 hts gX5_allows_X9_crossing_n55 rfl rfl rfl n1 (hts (.initialized RX9) (by decide +kernel)) (by decide +kernel) ⟨Nat.le_of_ble_eq_true rfl, Nat.le_of_ble_eq_true rfl⟩, hts (.static yX9_crossing) (by decide +kernel), trivial⟩ ⟨xPre_blind, xPre_at hK hPc hDc n1 n2⟩ rfl rfl hl.1 rfl (lv_room (Nat.le_of_ble_eq_true rfl)) dX5_allows_41 ⟨Nat.zero_le _, Nat.zero_le _⟩) (fun r8 u H locs hw hP hD hS => ?_)
          try dsimp only at hw
          have hP : va_P (dC, dI) vwCl (wld_X5_allows cI cJ cZ h_p0 h_p1 ad_p0 ad_p1 p0_places p0_steps p0_coloured p0_closed p0_heeds p0_needs p0_placeKinds p0_takes p0_wants p1_many p1_things) H := hP
          have hD : va_D A (wld_X5_allows cI cJ cZ h_p0 h_p1 ad_p0 ad_p1 p0_places p0_steps p0_coloured p0_closed p0_heeds p0_needs p0_placeKinds p0_takes p0_wants p1_many p1_things) := hD
          refine lv_istore (lv' := [(5, .int r8), (0, .ref h_p0), (1, .ref h_p1), (2, .int v2), (3, .int v3), (4, .int v4)]) hx hb dX5_allows_44 hl (by decide) rfl (fun ls hl => ?_)
          refine lv_aload_n hx hb dX5_allows_46 rfl (lv_at hl 2 rfl) ?_
          refine va_get (D := (dC, dI)) (ci := 3) (v := .ref (ad_p1 0)) (C := RX3) (T := TX3) (N := 2) hx hb hts iX3 hown hK hP 7 rfl rfl 0 (by decide) (hts (.fieldLink RX5 74 "NetHouse$Holding" "many" "[I") (by decide +kernel)) (fun _ h9 => h9) rfl dX5_allows_47 ?_
          refine lv_iload hx hb dX5_allows_50 (lv_at hl 5 rfl) ?_
          refine va_iald hx hb hK hP 8 0 rfl rfl hw.1 dX5_allows_52 ?_
          have hw := hw.2
          refine lv_topi (fun x9 ex9 => ?_)
          have hw := hw x9 ex9
          refine lv_istore (lv' := [(6, .int x9), (5, .int r8), (0, .ref h_p0), (1, .ref h_p1), (2, .int v2), (3, .int v3), (4, .int v4)]) hx hb dX5_allows_53 hl (by decide) rfl (fun ls hl => ?_)
          refine lv_iload hx hb dX5_allows_55 (lv_at hl 0 rfl) ?_
          refine lv_aload_n hx hb dX5_allows_57 rfl (lv_at hl 2 rfl) ?_
          refine va_get (D := (dC, dI)) (ci := 5) (v := .ref (ad_p0 2)) (C := RX5) (T := TX5) (N := 14) hx hb hts iX5 hown hK hP 0 rfl rfl 2 (by decide) (hts (.fieldLink RX5 18 "NetHouse$Net" "takes" "[I") (by decide +kernel)) (fun _ h9 => h9) rfl dX5_allows_58 ?_
          refine lv_iload hx hb dX5_allows_61 (lv_at hl 1 rfl) ?_
          refine va_iald hx hb hK hP 5 0 rfl rfl hw.1 dX5_allows_63 ?_
          have hw := hw.2
          refine lv_icmp_lt (tgt := 95) hx hb dX5_allows_64 (by decide) (fun c10 => ?_) (fun c11 => ?_)
          · have hw := hw.1 c10
            refine lv_iconst (v := 0) hx hb dX5_allows_95 (by decide) ?_
            exact x_zret (w1 := fun (u : Unit) => (wld_X5_allows cI cJ cZ h_p0 h_p1 ad_p0 ad_p1 p0_places p0_steps p0_coloured p0_closed p0_heeds p0_needs p0_placeKinds p0_takes p0_wants p1_many p1_things)) hx hb hr hlocks (by decide) () hw hP hD hS dX5_allows_96
          · have hw := hw.2 c11
            refine lv_iload hx hb dX5_allows_67 (lv_at hl 0 rfl) ?_
            refine lv_aload_n hx hb dX5_allows_69 rfl (lv_at hl 2 rfl) ?_
            refine va_get (D := (dC, dI)) (ci := 5) (v := .ref (ad_p0 4)) (C := RX5) (T := TX5) (N := 14) hx hb hts iX5 hown hK hP 0 rfl rfl 4 (by decide) (hts (.fieldLink RX5 24 "NetHouse$Net" "needs" "[I") (by decide +kernel)) (fun _ h9 => h9) rfl dX5_allows_70 ?_
            refine lv_iload hx hb dX5_allows_73 (lv_at hl 1 rfl) ?_
            refine va_iald hx hb hK hP 3 0 rfl rfl hw.1 dX5_allows_75 ?_
            have hw := hw.2
            refine lv_icmp_lt (tgt := 95) hx hb dX5_allows_76 (by decide) (fun c12 => ?_) (fun c13 => ?_)
            · have hw := hw.1 c12
              refine lv_iconst (v := 0) hx hb dX5_allows_95 (by decide) ?_
              exact x_zret (w1 := fun (u : Unit) => (wld_X5_allows cI cJ cZ h_p0 h_p1 ad_p0 ad_p1 p0_places p0_steps p0_coloured p0_closed p0_heeds p0_needs p0_placeKinds p0_takes p0_wants p1_many p1_things)) hx hb hr hlocks (by decide) () hw hP hD hS dX5_allows_96
            · have hw := hw.2 c13
              refine lv_iload hx hb dX5_allows_79 (lv_at hl 0 rfl) ?_
              refine lv_if_le (tgt := 97) hx hb dX5_allows_81 (by decide) (fun c14 => ?_) (fun c15 => ?_)
              · have hw := hw.1 c14
                refine lv_aload_n hx hb dX5_allows_97 rfl (lv_at hl 2 rfl) ?_
                refine va_get (D := (dC, dI)) (ci := 5) (v := .ref (ad_p0 2)) (C := RX5) (T := TX5) (N := 14) hx hb hts iX5 hown hK hP 0 rfl rfl 2 (by decide) (hts (.fieldLink RX5 18 "NetHouse$Net" "takes" "[I") (by decide +kernel)) (fun _ h9 => h9) rfl dX5_allows_98 ?_
                refine lv_iload hx hb dX5_allows_101 (lv_at hl 1 rfl) ?_
                refine va_iald hx hb hK hP 5 0 rfl rfl hw.1 dX5_allows_103 ?_
                have hw := hw.2
                refine lv_if_le (tgt := 141) hx hb dX5_allows_104 (by decide) (fun c16 => ?_) (fun c17 => ?_)
                · have hw := hw.1 c16
                  obtain ⟨x18, ex18⟩ : ∃ y : Int32, y = v4 + (1 : Int32) := ⟨_, rfl⟩
                  have hw := hw x18 ex18
                  refine lv_iinc (v := x18) (lv' := [(4, .int x18), (6, .int x9), (5, .int r8), (0, .ref h_p0), (1, .ref h_p1), (2, .int v2), (3, .int v3)]) hx hb dX5_allows_141 hl (k := 6) rfl (by rw [ex18]; rfl) (by decide) rfl (fun ls hl => ?_)
                  refine lv_goto (tgt := 10) hx hb dX5_allows_144 (by decide) ?_
                  exact ih _ hw _ _ _ hP hD hS (lv_sub hl [3, 4, 5, 6, 0] rfl)
                · have hw := hw.2 c17
                  refine lv_aload_n hx hb dX5_allows_107 rfl (lv_at hl 2 rfl) ?_
                  refine lv_iload hx hb dX5_allows_108 (lv_at hl 6 rfl) ?_
                  obtain ⟨hPc, hDc⟩ := x_sub (wc := (wld_X5_isColoured cI cJ cZ h_p0 ad_p0 p0_places p0_steps p0_coloured p0_placeKinds)) hP hD [0, 4] (n := 10) rfl rfl (by decide +kernel)
                  refine x_calli (ws' := fun (u : Unit) => (wld_X5_allows cI cJ cZ h_p0 h_p1 ad_p0 ad_p1 p0_places p0_steps p0_coloured p0_closed p0_heeds p0_needs p0_placeKinds p0_takes p0_wants p1_many p1_things)) hP hD hS hA [0, 4] [1, 2, 3, 5, 6, 7, 8, 9] [8, 0, 1, 2, 9, 3, 4, 5, 6, 7] (n := 10) (k := 2) rfl (fun _ => rfl) rfl (by decide +kernel) (fun _ => rfl) (va_runV (As := [.int v4]) (rest := []) ⟨hx, hb, hml, hown, hts⟩ (c_X5_isColoured (l := l) (dC := dC) (dI := dI) (cI := cI) (cJ := cJ) (cZ := cZ) (sz := H.size) (h_p0 := h_p0) (ad_p0 := ad_p0) (p0_places := p0_places) (p0_steps := p0_steps) (p0_coloured := p0_coloured) (p0_placeKinds := p0_placeKinds) hw) (cwV 1 hts gX5_allows_X5_isColoured rfl rfl rfl (by decide +kernel) ⟨Nat.le_of_ble_eq_true rfl, Nat.le_of_ble_eq_true rfl⟩) ⟨xPre_blind, va_recv hK hP (ci := 5) (q0 := 0) rfl rfl, xPre_at hK hPc hDc n1 n2⟩ rfl rfl hl.1 rfl (lv_room (Nat.le_of_ble_eq_true rfl)) dX5_allows_110 ⟨Nat.zero_le _, Nat.zero_le _⟩) (fun r19 u H locs hw hP hD hS => ?_)
                  try dsimp only at hw
                  have hP : va_P (dC, dI) vwCl (wld_X5_allows cI cJ cZ h_p0 h_p1 ad_p0 ad_p1 p0_places p0_steps p0_coloured p0_closed p0_heeds p0_needs p0_placeKinds p0_takes p0_wants p1_many p1_things) H := hP
                  have hD : va_D A (wld_X5_allows cI cJ cZ h_p0 h_p1 ad_p0 ad_p1 p0_places p0_steps p0_coloured p0_closed p0_heeds p0_needs p0_placeKinds p0_takes p0_wants p1_many p1_things) := hD
                  refine lv_if_eq (tgt := 141) hx hb dX5_allows_113 (by decide) (fun c20 => ?_) (fun c21 => ?_)
                  · have hw := hw.1 c20
                    obtain ⟨x22, ex22⟩ : ∃ y : Int32, y = v4 + (1 : Int32) := ⟨_, rfl⟩
                    have hw := hw x22 ex22
                    refine lv_iinc (v := x22) (lv' := [(4, .int x22), (6, .int x9), (5, .int r8), (0, .ref h_p0), (1, .ref h_p1), (2, .int v2), (3, .int v3)]) hx hb dX5_allows_141 hl (k := 6) rfl (by rw [ex22]; rfl) (by decide) rfl (fun ls hl => ?_)
                    refine lv_goto (tgt := 10) hx hb dX5_allows_144 (by decide) ?_
                    exact ih _ hw _ _ _ hP hD hS (lv_sub hl [3, 4, 5, 6, 0] rfl)
                  · have hw := hw.2 c21
                    refine lv_aload_n hx hb dX5_allows_116 rfl (lv_at hl 3 rfl) ?_
                    refine lv_iload hx hb dX5_allows_117 (lv_at hl 6 rfl) ?_
                    refine lv_aload_n hx hb dX5_allows_119 rfl (lv_at hl 2 rfl) ?_
                    refine va_get (D := (dC, dI)) (ci := 5) (v := .ref (ad_p0 6)) (C := RX5) (T := TX5) (N := 14) hx hb hts iX5 hown hK hP 0 rfl rfl 6 (by decide) (hts (.fieldLink RX5 30 "NetHouse$Net" "wants" "[I") (by decide +kernel)) (fun _ h9 => h9) rfl dX5_allows_120 ?_
                    refine lv_iload hx hb dX5_allows_123 (lv_at hl 1 rfl) ?_
                    refine va_iald hx hb hK hP 6 0 rfl rfl hw.1 dX5_allows_125 ?_
                    have hw := hw.2
                    obtain ⟨hPc, hDc⟩ := x_sub (wc := (wld_X3_manyOf cI cJ cZ h_p1 ad_p1 p1_many p1_things)) hP hD [7, 8, 9] (n := 10) rfl rfl (by decide +kernel)
                    refine x_calli (ws' := fun (u : Unit) => (wld_X5_allows cI cJ cZ h_p0 h_p1 ad_p0 ad_p1 p0_places p0_steps p0_coloured p0_closed p0_heeds p0_needs p0_placeKinds p0_takes p0_wants p1_many p1_things)) hP hD hS hA [7, 8, 9] [0, 1, 2, 3, 4, 5, 6] [0, 1, 2, 3, 4, 5, 6, 7, 8, 9] (n := 10) (k := 3) rfl (fun _ => rfl) rfl (by decide +kernel) (fun _ => rfl) (va_runV (As := [.int v4, .int (p0_wants r8.toNatClampNeg)]) (rest := []) ⟨hx, hb, hml, hown, hts⟩ (c_X3_manyOf (l := l) (dC := dC) (dI := dI) (cI := cI) (cJ := cJ) (cZ := cZ) (sz := H.size) (h_p0 := h_p1) (ad_p0 := ad_p1) (p0_many := p1_many) (p0_things := p1_things) hw) (cwV 2 hts gX5_allows_X3_manyOf rfl rfl rfl (by decide +kernel) ⟨Nat.le_of_ble_eq_true rfl, Nat.le_of_ble_eq_true rfl⟩) ⟨xPre_blind, va_recv hK hP (ci := 3) (q0 := 7) rfl rfl, xPre_at hK hPc hDc n1 n2⟩ rfl rfl hl.1 rfl (lv_room (Nat.le_of_ble_eq_true rfl)) dX5_allows_126 ⟨Nat.zero_le _, Nat.zero_le _⟩) (fun r23 u H locs hw hP hD hS => ?_)
                    try dsimp only at hw
                    have hP : va_P (dC, dI) vwCl (wld_X5_allows cI cJ cZ h_p0 h_p1 ad_p0 ad_p1 p0_places p0_steps p0_coloured p0_closed p0_heeds p0_needs p0_placeKinds p0_takes p0_wants p1_many p1_things) H := hP
                    have hD : va_D A (wld_X5_allows cI cJ cZ h_p0 h_p1 ad_p0 ad_p1 p0_places p0_steps p0_coloured p0_closed p0_heeds p0_needs p0_placeKinds p0_takes p0_wants p1_many p1_things) := hD
                    refine lv_aload_n hx hb dX5_allows_129 rfl (lv_at hl 2 rfl) ?_
                    refine va_get (D := (dC, dI)) (ci := 5) (v := .ref (ad_p0 2)) (C := RX5) (T := TX5) (N := 14) hx hb hts iX5 hown hK hP 0 rfl rfl 2 (by decide) (hts (.fieldLink RX5 18 "NetHouse$Net" "takes" "[I") (by decide +kernel)) (fun _ h9 => h9) rfl dX5_allows_130 ?_
                    refine lv_iload hx hb dX5_allows_133 (lv_at hl 1 rfl) ?_
                    refine va_iald hx hb hK hP 5 0 rfl rfl hw.1 dX5_allows_135 ?_
                    have hw := hw.2
                    refine lv_icmp_ge (tgt := 141) hx hb dX5_allows_136 (by decide) (fun c24 => ?_) (fun c25 => ?_)
                    · have hw := hw.1 c24
                      obtain ⟨x26, ex26⟩ : ∃ y : Int32, y = v4 + (1 : Int32) := ⟨_, rfl⟩
                      have hw := hw x26 ex26
                      refine lv_iinc (v := x26) (lv' := [(4, .int x26), (6, .int x9), (5, .int r8), (0, .ref h_p0), (1, .ref h_p1), (2, .int v2), (3, .int v3)]) hx hb dX5_allows_141 hl (k := 6) rfl (by rw [ex26]; rfl) (by decide) rfl (fun ls hl => ?_)
                      refine lv_goto (tgt := 10) hx hb dX5_allows_144 (by decide) ?_
                      exact ih _ hw _ _ _ hP hD hS (lv_sub hl [3, 4, 5, 6, 0] rfl)
                    · have hw := hw.2 c25
                      refine lv_iconst (v := 0) hx hb dX5_allows_139 (by decide) ?_
                      exact x_zret (w1 := fun (u : Unit) => (wld_X5_allows cI cJ cZ h_p0 h_p1 ad_p0 ad_p1 p0_places p0_steps p0_coloured p0_closed p0_heeds p0_needs p0_placeKinds p0_takes p0_wants p1_many p1_things)) hx hb hr hlocks (by decide) () hw hP hD hS dX5_allows_140
              · have hw := hw.2 c15
                refine lv_aload_n hx hb dX5_allows_84 rfl (lv_at hl 2 rfl) ?_
                refine va_get (D := (dC, dI)) (ci := 5) (v := .ref (ad_p0 5)) (C := RX5) (T := TX5) (N := 14) hx hb hts iX5 hown hK hP 0 rfl rfl 5 (by decide) (hts (.fieldLink RX5 27 "NetHouse$Net" "closed" "[I") (by decide +kernel)) (fun _ h9 => h9) rfl dX5_allows_85 ?_
                refine lv_iload hx hb dX5_allows_88 (lv_at hl 1 rfl) ?_
                refine va_iald hx hb hK hP 1 0 rfl rfl hw.1 dX5_allows_90 ?_
                have hw := hw.2
                refine lv_iconst (v := 1) hx hb dX5_allows_91 (by decide) ?_
                refine lv_icmp_ne (tgt := 97) hx hb dX5_allows_92 (by decide) (fun c27 => ?_) (fun c28 => ?_)
                · have hw := hw.1 c27
                  refine lv_aload_n hx hb dX5_allows_97 rfl (lv_at hl 2 rfl) ?_
                  refine va_get (D := (dC, dI)) (ci := 5) (v := .ref (ad_p0 2)) (C := RX5) (T := TX5) (N := 14) hx hb hts iX5 hown hK hP 0 rfl rfl 2 (by decide) (hts (.fieldLink RX5 18 "NetHouse$Net" "takes" "[I") (by decide +kernel)) (fun _ h9 => h9) rfl dX5_allows_98 ?_
                  refine lv_iload hx hb dX5_allows_101 (lv_at hl 1 rfl) ?_
                  refine va_iald hx hb hK hP 5 0 rfl rfl hw.1 dX5_allows_103 ?_
                  have hw := hw.2
                  refine lv_if_le (tgt := 141) hx hb dX5_allows_104 (by decide) (fun c29 => ?_) (fun c30 => ?_)
                  · have hw := hw.1 c29
                    obtain ⟨x31, ex31⟩ : ∃ y : Int32, y = v4 + (1 : Int32) := ⟨_, rfl⟩
                    have hw := hw x31 ex31
                    refine lv_iinc (v := x31) (lv' := [(4, .int x31), (6, .int x9), (5, .int r8), (0, .ref h_p0), (1, .ref h_p1), (2, .int v2), (3, .int v3)]) hx hb dX5_allows_141 hl (k := 6) rfl (by rw [ex31]; rfl) (by decide) rfl (fun ls hl => ?_)
                    refine lv_goto (tgt := 10) hx hb dX5_allows_144 (by decide) ?_
                    exact ih _ hw _ _ _ hP hD hS (lv_sub hl [3, 4, 5, 6, 0] rfl)
                  · have hw := hw.2 c30
                    refine lv_aload_n hx hb dX5_allows_107 rfl (lv_at hl 2 rfl) ?_
                    refine lv_iload hx hb dX5_allows_108 (lv_at hl 6 rfl) ?_
                    obtain ⟨hPc, hDc⟩ := x_sub (wc := (wld_X5_isColoured cI cJ cZ h_p0 ad_p0 p0_places p0_steps p0_coloured p0_placeKinds)) hP hD [0, 4] (n := 10) rfl rfl (by decide +kernel)
                    refine x_calli (ws' := fun (u : Unit) => (wld_X5_allows cI cJ cZ h_p0 h_p1 ad_p0 ad_p1 p0_places p0_steps p0_coloured p0_closed p0_heeds p0_needs p0_placeKinds p0_takes p0_wants p1_many p1_things)) hP hD hS hA [0, 4] [1, 2, 3, 5, 6, 7, 8, 9] [8, 0, 1, 2, 9, 3, 4, 5, 6, 7] (n := 10) (k := 2) rfl (fun _ => rfl) rfl (by decide +kernel) (fun _ => rfl) (va_runV (As := [.int v4]) (rest := []) ⟨hx, hb, hml, hown, hts⟩ (c_X5_isColoured (l := l) (dC := dC) (dI := dI) (cI := cI) (cJ := cJ) (cZ := cZ) (sz := H.size) (h_p0 := h_p0) (ad_p0 := ad_p0) (p0_places := p0_places) (p0_steps := p0_steps) (p0_coloured := p0_coloured) (p0_placeKinds := p0_placeKinds) hw) (cwV 1 hts gX5_allows_X5_isColoured rfl rfl rfl (by decide +kernel) ⟨Nat.le_of_ble_eq_true rfl, Nat.le_of_ble_eq_true rfl⟩) ⟨xPre_blind, va_recv hK hP (ci := 5) (q0 := 0) rfl rfl, xPre_at hK hPc hDc n1 n2⟩ rfl rfl hl.1 rfl (lv_room (Nat.le_of_ble_eq_true rfl)) dX5_allows_110 ⟨Nat.zero_le _, Nat.zero_le _⟩) (fun r32 u H locs hw hP hD hS => ?_)
                    try dsimp only at hw
                    have hP : va_P (dC, dI) vwCl (wld_X5_allows cI cJ cZ h_p0 h_p1 ad_p0 ad_p1 p0_places p0_steps p0_coloured p0_closed p0_heeds p0_needs p0_placeKinds p0_takes p0_wants p1_many p1_things) H := hP
                    have hD : va_D A (wld_X5_allows cI cJ cZ h_p0 h_p1 ad_p0 ad_p1 p0_places p0_steps p0_coloured p0_closed p0_heeds p0_needs p0_placeKinds p0_takes p0_wants p1_many p1_things) := hD
                    refine lv_if_eq (tgt := 141) hx hb dX5_allows_113 (by decide) (fun c33 => ?_) (fun c34 => ?_)
                    · have hw := hw.1 c33
                      obtain ⟨x35, ex35⟩ : ∃ y : Int32, y = v4 + (1 : Int32) := ⟨_, rfl⟩
                      have hw := hw x35 ex35
                      refine lv_iinc (v := x35) (lv' := [(4, .int x35), (6, .int x9), (5, .int r8), (0, .ref h_p0), (1, .ref h_p1), (2, .int v2), (3, .int v3)]) hx hb dX5_allows_141 hl (k := 6) rfl (by rw [ex35]; rfl) (by decide) rfl (fun ls hl => ?_)
                      refine lv_goto (tgt := 10) hx hb dX5_allows_144 (by decide) ?_
                      exact ih _ hw _ _ _ hP hD hS (lv_sub hl [3, 4, 5, 6, 0] rfl)
                    · have hw := hw.2 c34
                      refine lv_aload_n hx hb dX5_allows_116 rfl (lv_at hl 3 rfl) ?_
                      refine lv_iload hx hb dX5_allows_117 (lv_at hl 6 rfl) ?_
                      refine lv_aload_n hx hb dX5_allows_119 rfl (lv_at hl 2 rfl) ?_
                      refine va_get (D := (dC, dI)) (ci := 5) (v := .ref (ad_p0 6)) (C := RX5) (T := TX5) (N := 14) hx hb hts iX5 hown hK hP 0 rfl rfl 6 (by decide) (hts (.fieldLink RX5 30 "NetHouse$Net" "wants" "[I") (by decide +kernel)) (fun _ h9 => h9) rfl dX5_allows_120 ?_
                      refine lv_iload hx hb dX5_allows_123 (lv_at hl 1 rfl) ?_
                      refine va_iald hx hb hK hP 6 0 rfl rfl hw.1 dX5_allows_125 ?_
                      have hw := hw.2
                      obtain ⟨hPc, hDc⟩ := x_sub (wc := (wld_X3_manyOf cI cJ cZ h_p1 ad_p1 p1_many p1_things)) hP hD [7, 8, 9] (n := 10) rfl rfl (by decide +kernel)
                      refine x_calli (ws' := fun (u : Unit) => (wld_X5_allows cI cJ cZ h_p0 h_p1 ad_p0 ad_p1 p0_places p0_steps p0_coloured p0_closed p0_heeds p0_needs p0_placeKinds p0_takes p0_wants p1_many p1_things)) hP hD hS hA [7, 8, 9] [0, 1, 2, 3, 4, 5, 6] [0, 1, 2, 3, 4, 5, 6, 7, 8, 9] (n := 10) (k := 3) rfl (fun _ => rfl) rfl (by decide +kernel) (fun _ => rfl) (va_runV (As := [.int v4, .int (p0_wants r8.toNatClampNeg)]) (rest := []) ⟨hx, hb, hml, hown, hts⟩ (c_X3_manyOf (l := l) (dC := dC) (dI := dI) (cI := cI) (cJ := cJ) (cZ := cZ) (sz := H.size) (h_p0 := h_p1) (ad_p0 := ad_p1) (p0_many := p1_many) (p0_things := p1_things) hw) (cwV 2 hts gX5_allows_X3_manyOf rfl rfl rfl (by decide +kernel) ⟨Nat.le_of_ble_eq_true rfl, Nat.le_of_ble_eq_true rfl⟩) ⟨xPre_blind, va_recv hK hP (ci := 3) (q0 := 7) rfl rfl, xPre_at hK hPc hDc n1 n2⟩ rfl rfl hl.1 rfl (lv_room (Nat.le_of_ble_eq_true rfl)) dX5_allows_126 ⟨Nat.zero_le _, Nat.zero_le _⟩) (fun r36 u H locs hw hP hD hS => ?_)
                      try dsimp only at hw
                      have hP : va_P (dC, dI) vwCl (wld_X5_allows cI cJ cZ h_p0 h_p1 ad_p0 ad_p1 p0_places p0_steps p0_coloured p0_closed p0_heeds p0_needs p0_placeKinds p0_takes p0_wants p1_many p1_things) H := hP
                      have hD : va_D A (wld_X5_allows cI cJ cZ h_p0 h_p1 ad_p0 ad_p1 p0_places p0_steps p0_coloured p0_closed p0_heeds p0_needs p0_placeKinds p0_takes p0_wants p1_many p1_things) := hD
                      refine lv_aload_n hx hb dX5_allows_129 rfl (lv_at hl 2 rfl) ?_
                      refine va_get (D := (dC, dI)) (ci := 5) (v := .ref (ad_p0 2)) (C := RX5) (T := TX5) (N := 14) hx hb hts iX5 hown hK hP 0 rfl rfl 2 (by decide) (hts (.fieldLink RX5 18 "NetHouse$Net" "takes" "[I") (by decide +kernel)) (fun _ h9 => h9) rfl dX5_allows_130 ?_
                      refine lv_iload hx hb dX5_allows_133 (lv_at hl 1 rfl) ?_
                      refine va_iald hx hb hK hP 5 0 rfl rfl hw.1 dX5_allows_135 ?_
                      have hw := hw.2
                      refine lv_icmp_ge (tgt := 141) hx hb dX5_allows_136 (by decide) (fun c37 => ?_) (fun c38 => ?_)
                      · have hw := hw.1 c37
                        obtain ⟨x39, ex39⟩ : ∃ y : Int32, y = v4 + (1 : Int32) := ⟨_, rfl⟩
                        have hw := hw x39 ex39
                        refine lv_iinc (v := x39) (lv' := [(4, .int x39), (6, .int x9), (5, .int r8), (0, .ref h_p0), (1, .ref h_p1), (2, .int v2), (3, .int v3)]) hx hb dX5_allows_141 hl (k := 6) rfl (by rw [ex39]; rfl) (by decide) rfl (fun ls hl => ?_)
                        refine lv_goto (tgt := 10) hx hb dX5_allows_144 (by decide) ?_
                        exact ih _ hw _ _ _ hP hD hS (lv_sub hl [3, 4, 5, 6, 0] rfl)
                      · have hw := hw.2 c38
                        refine lv_iconst (v := 0) hx hb dX5_allows_139 (by decide) ?_
                        exact x_zret (w1 := fun (u : Unit) => (wld_X5_allows cI cJ cZ h_p0 h_p1 ad_p0 ad_p1 p0_places p0_steps p0_coloured p0_closed p0_heeds p0_needs p0_placeKinds p0_takes p0_wants p1_many p1_things)) hx hb hr hlocks (by decide) () hw hP hD hS dX5_allows_140
                · have hw := hw.2 c28
                  refine lv_iconst (v := 0) hx hb dX5_allows_95 (by decide) ?_
                  exact x_zret (w1 := fun (u : Unit) => (wld_X5_allows cI cJ cZ h_p0 h_p1 ad_p0 ad_p1 p0_places p0_steps p0_coloured p0_closed p0_heeds p0_needs p0_placeKinds p0_takes p0_wants p1_many p1_things)) hx hb hr hlocks (by decide) () hw hP hD hS dX5_allows_96
        · have hw := hw.2 c7
          refine lv_goto (tgt := 141) hx hb dX5_allows_35 (by decide) ?_
          obtain ⟨x40, ex40⟩ : ∃ y : Int32, y = v4 + (1 : Int32) := ⟨_, rfl⟩
          have hw := hw x40 ex40
          refine lv_iinc (v := x40) (lv' := [(4, .int x40), (0, .ref h_p0), (1, .ref h_p1), (2, .int v2), (3, .int v3)]) hx hb dX5_allows_141 hl (k := 4) rfl (by rw [ex40]; rfl) (by decide) rfl (fun ls hl => ?_)
          refine lv_goto (tgt := 10) hx hb dX5_allows_144 (by decide) ?_
          exact ih _ hw _ _ _ hP hD hS (lv_sub hl [1, 2, 3, 4, 0] rfl)
set_option maxHeartbeats 4000000 in
set_option maxRecDepth 100000 in
theorem c_X5_allows {l : Launch} {dC : Nat → ClassId} {dI : Nat → Nat → Nat} {sz : Nat} {cI cJ cZ : ClassId} {h_p0 : Nat} {h_p1 : Nat} {ad_p0 : Nat → Nat} {ad_p1 : Nat → Nat} {p0_places : Int32} {p0_steps : Int32} {p0_coloured : Int32} {p0_closed : Nat → Int32} {p0_heeds : Nat → Int32} {p0_needs : Nat → Int32} {p0_placeKinds : Nat → Int32} {p0_takes : Nat → Int32} {p0_wants : Nat → Int32} {p1_many : Nat → Int32} {p1_things : Nat → Int64} {a2 : Int32} {post : Int32 → Prop} (hw : w_X5_allows p0_places p0_closed p0_heeds p0_needs p0_placeKinds p0_takes p0_wants p1_many p1_things a2 post) : Met l yX5_allows wsX5_allows ({ frames := 2, cells := 0, slots := 0, locals := 46 }) (va_Pc [.ref h_p0, .ref h_p1, .int a2] (xPre (dC, dI) cI cJ cZ (wld_X5_allows cI cJ cZ h_p0 h_p1 ad_p0 ad_p1 p0_places p0_steps p0_coloured p0_closed p0_heeds p0_needs p0_placeKinds p0_takes p0_wants p1_many p1_things) sz)) (q_X5_allows dC dI cI cJ cZ h_p0 h_p1 ad_p0 ad_p1 p0_places p0_steps p0_coloured p0_closed p0_heeds p0_needs p0_placeKinds p0_takes p0_wants p1_many p1_things post (va_A (wld_X5_allows cI cJ cZ h_p0 h_p1 ad_p0 ad_p1 p0_places p0_steps p0_coloured p0_closed p0_heeds p0_needs p0_placeKinds p0_takes p0_wants p1_many p1_things) sz)) 0 0 (va_A (wld_X5_allows cI cJ cZ h_p0 h_p1 ad_p0 ad_p1 p0_places p0_steps p0_coloured p0_closed p0_heeds p0_needs p0_placeKinds p0_takes p0_wants p1_many p1_things) sz) := by
  refine x_met (cc := cX5_allows) (maxL := 7) (ret := (some .boolean)) (own := RX5) (Qc := fun A => (q_X5_allows dC dI cI cJ cZ h_p0 h_p1 ad_p0 ad_p1 p0_places p0_steps p0_coloured p0_closed p0_heeds p0_needs p0_placeKinds p0_takes p0_wants p1_many p1_things post A)) (by decide) rfl rfl (Nat.le_of_ble_eq_true rfl) ?_
  intro p e s m args below meth c A ls E0 hP hD hS hl
  obtain ⟨hx, hb, hr, hml, hown, hts, hlocks, hK, hA, n1, n2⟩ := id E0
  have iX3 : ∀ w ∈ u_ws RX3 TX3 2, w ∈ wsX5_allows := fun w h => List.mem_cons_of_mem _ (List.mem_append_right _ h)
  have iX5 : ∀ w ∈ u_ws RX5 TX5 14, w ∈ wsX5_allows := fun w h => List.mem_cons_of_mem _ (List.mem_append_left _ (List.mem_append_right _ h))
  have hS0 := hS
  have hl : lv_has ls 7 [(0, .ref h_p0), (1, .ref h_p1), (2, .int a2)] := hl
  unfold w_X5_allows at hw
  obtain ⟨H, hH⟩ : ∃ H, H = s.heap := ⟨_, rfl⟩
  have hS : va_S A s.heap H [] := by rw [hH]; exact hS
  have hP : va_P (dC, dI) vwCl (wld_X5_allows cI cJ cZ h_p0 h_p1 ad_p0 ad_p1 p0_places p0_steps p0_coloured p0_closed p0_heeds p0_needs p0_placeKinds p0_takes p0_wants p1_many p1_things) H := by rw [hH]; exact hP
  suffices hG : W p l e ({ frames := 2, cells := 0, slots := 0, locals := 46 }) s m args below meth c H [] 0 0 (MQ below (q_X5_allows dC dI cI cJ cZ h_p0 h_p1 ad_p0 ad_p1 p0_places p0_steps p0_coloured p0_closed p0_heeds p0_needs p0_placeKinds p0_takes p0_wants p1_many p1_things post A) args s 0 0 A) (F0 m 0 ls []) by rw [hH] at hG; exact hG
  clear hH
  refine lv_aload_n hx hb dX5_allows_0 rfl (lv_at hl 0 rfl) ?_
  refine va_get (D := (dC, dI)) (ci := 5) (v := .ref (ad_p0 10)) (C := RX5) (T := TX5) (N := 14) hx hb hts iX5 hown hK hP 0 rfl rfl 10 (by decide) (hts (.fieldLink RX5 42 "NetHouse$Net" "heeds" "[I") (by decide +kernel)) (fun _ h9 => h9) rfl dX5_allows_1 ?_
  refine lv_iload_n hx hb dX5_allows_4 rfl (lv_at hl 2 rfl) ?_
  refine va_iald hx hb hK hP 2 0 rfl rfl hw.1 dX5_allows_5 ?_
  have hw := hw.2
  refine lv_topi (fun x1 ex1 => ?_)
  have hw := hw x1 ex1
  refine lv_istore_n (lv' := [(3, .int x1), (0, .ref h_p0), (1, .ref h_p1), (2, .int a2)]) hx hb dX5_allows_6 rfl hl (by decide) rfl (fun ls hl => ?_)
  refine lv_iconst (v := 0) hx hb dX5_allows_7 (by decide) ?_
  refine lv_istore (lv' := [(4, .int (0 : Int32)), (3, .int x1), (0, .ref h_p0), (1, .ref h_p1), (2, .int a2)]) hx hb dX5_allows_8 hl (by decide) rfl (fun ls hl => ?_)
  obtain ⟨n41, hw⟩ := hw
  refine c_X5_allows_L10 (l := l)  E0 ?_ n41 _ hw _ _ _ hP hD hS (lv_sub hl [2, 3, 4, 1, 0] rfl)
  · intro v42 H locs ls hw hP hD hS hl
    have hP : va_P (dC, dI) vwCl (wld_X5_allows cI cJ cZ h_p0 h_p1 ad_p0 ad_p1 p0_places p0_steps p0_coloured p0_closed p0_heeds p0_needs p0_placeKinds p0_takes p0_wants p1_many p1_things) H := hP
    have hD : va_D A (wld_X5_allows cI cJ cZ h_p0 h_p1 ad_p0 ad_p1 p0_places p0_steps p0_coloured p0_closed p0_heeds p0_needs p0_placeKinds p0_takes p0_wants p1_many p1_things) := hD
    refine lv_iconst (v := 1) hx hb dX5_allows_147 (by decide) ?_
    exact x_zret (w1 := fun (u : Unit) => (wld_X5_allows cI cJ cZ h_p0 h_p1 ad_p0 ad_p1 p0_places p0_steps p0_coloured p0_closed p0_heeds p0_needs p0_placeKinds p0_takes p0_wants p1_many p1_things)) hx hb hr hlocks (by decide) () hw hP hD hS dX5_allows_148
abbrev wld_X5_goesWhere (cI cJ cZ : ClassId) (h_p0 : Nat) (h_p2 : Nat) (ad_p0 : Nat → Nat) (ad_p2 : Nat → Nat) (p0_places : Int32) (p0_steps : Int32) (p0_coloured : Int32) (p0_closed : Nat → Int32) (p0_heeds : Nat → Int32) (p0_needs : Nat → Int32) (p0_placeKinds : Nat → Int32) (p0_stepKinds : Nat → Int32) (p0_takes : Nat → Int32) (p0_wants : Nat → Int32) (p2_many : Nat → Int32) (p2_things : Nat → Int64) : va_W := [(h_p0, .inr (5, [.ref (ad_p0 0), .ref (ad_p0 1), .ref (ad_p0 2), .ref (ad_p0 3), .ref (ad_p0 4), .ref (ad_p0 5), .ref (ad_p0 6), .ref (ad_p0 7), .ref (ad_p0 8), .ref (ad_p0 9), .ref (ad_p0 10), .int p0_places, .int p0_steps, .int p0_coloured])), ((ad_p0 5), .inl (cI, 256, .inl p0_closed)), ((ad_p0 10), .inl (cI, 16, .inl p0_heeds)), ((ad_p0 4), .inl (cI, 256, .inl p0_needs)), ((ad_p0 0), .inl (cI, 16, .inl p0_placeKinds)), ((ad_p0 1), .inl (cI, 16, .inl p0_stepKinds)), ((ad_p0 2), .inl (cI, 256, .inl p0_takes)), ((ad_p0 6), .inl (cI, 256, .inl p0_wants)), (h_p2, .inr (3, [.ref (ad_p2 0), .ref (ad_p2 1)])), ((ad_p2 0), .inl (cI, 16, .inl p2_many)), ((ad_p2 1), .inl (cJ, 16, .inr (.inl p2_things)))]
abbrev q_X5_goesWhere (dC : Nat → ClassId) (dI : Nat → Nat → Nat) (cI cJ cZ : ClassId) (h_p0 : Nat) (h_p2 : Nat) (ad_p0 : Nat → Nat) (ad_p2 : Nat → Nat) (p0_places : Int32) (p0_steps : Int32) (p0_coloured : Int32) (p0_closed : Nat → Int32) (p0_heeds : Nat → Int32) (p0_needs : Nat → Int32) (p0_placeKinds : Nat → Int32) (p0_stepKinds : Nat → Int32) (p0_takes : Nat → Int32) (p0_wants : Nat → Int32) (p2_many : Nat → Int32) (p2_things : Nat → Int64) (post : Int32 → Prop) (A : Nat → Prop) : Array Value → State → Outcome → State → Prop := va_Qi (fun r (u : Unit) => post r ) (fun (u : Unit) t => xPost (dC, dI) A (wld_X5_goesWhere cI cJ cZ h_p0 h_p2 ad_p0 ad_p2 p0_places p0_steps p0_coloured p0_closed p0_heeds p0_needs p0_placeKinds p0_stepKinds p0_takes p0_wants p2_many p2_things) t) A
def w_X5_goesWhere (p0_places : Int32) (p0_closed : Nat → Int32) (p0_heeds : Nat → Int32) (p0_needs : Nat → Int32) (p0_placeKinds : Nat → Int32) (p0_stepKinds : Nat → Int32) (p0_takes : Nat → Int32) (p0_wants : Nat → Int32) (p2_many : Nat → Int32) (p2_things : Nat → Int64) (a1 : Int32) (a3 : Int32) (post : Int32 → Prop) : Prop :=
  (a1 = 0 →
    w_X5_allows p0_places p0_closed p0_heeds p0_needs p0_placeKinds p0_takes p0_wants p2_many p2_things a3 (fun r3 =>
    (r3 = 0 →
      (post (0 : Int32))) ∧
    (¬ r3 = 0 →
      (post (1 : Int32))))) ∧
  (¬ a1 = 0 →
    vp_in a3 16 ∧
    (¬ (p0_stepKinds a3.toNatClampNeg) = (3 : Int32) →
      (post (0 : Int32))) ∧
    ((p0_stepKinds a3.toNatClampNeg) = (3 : Int32) →
      w_X5_allows p0_places p0_closed p0_heeds p0_needs p0_placeKinds p0_takes p0_wants p2_many p2_things a3 (fun r8 =>
      (r8 = 0 →
        (post (0 : Int32))) ∧
      (¬ r8 = 0 →
        (post (1 : Int32))))))
set_option maxHeartbeats 4000000 in
set_option maxRecDepth 100000 in
theorem c_X5_goesWhere {l : Launch} {dC : Nat → ClassId} {dI : Nat → Nat → Nat} {sz : Nat} {cI cJ cZ : ClassId} {h_p0 : Nat} {h_p2 : Nat} {ad_p0 : Nat → Nat} {ad_p2 : Nat → Nat} {p0_places : Int32} {p0_steps : Int32} {p0_coloured : Int32} {p0_closed : Nat → Int32} {p0_heeds : Nat → Int32} {p0_needs : Nat → Int32} {p0_placeKinds : Nat → Int32} {p0_stepKinds : Nat → Int32} {p0_takes : Nat → Int32} {p0_wants : Nat → Int32} {p2_many : Nat → Int32} {p2_things : Nat → Int64} {a1 : Int32} {a3 : Int32} {post : Int32 → Prop} (hw : w_X5_goesWhere p0_places p0_closed p0_heeds p0_needs p0_placeKinds p0_stepKinds p0_takes p0_wants p2_many p2_things a1 a3 post) : Met l yX5_goesWhere wsX5_goesWhere ({ frames := 3, cells := 0, slots := 0, locals := 72 }) (va_Pc [.ref h_p0, .int a1, .ref h_p2, .int a3] (xPre (dC, dI) cI cJ cZ (wld_X5_goesWhere cI cJ cZ h_p0 h_p2 ad_p0 ad_p2 p0_places p0_steps p0_coloured p0_closed p0_heeds p0_needs p0_placeKinds p0_stepKinds p0_takes p0_wants p2_many p2_things) sz)) (q_X5_goesWhere dC dI cI cJ cZ h_p0 h_p2 ad_p0 ad_p2 p0_places p0_steps p0_coloured p0_closed p0_heeds p0_needs p0_placeKinds p0_stepKinds p0_takes p0_wants p2_many p2_things post (va_A (wld_X5_goesWhere cI cJ cZ h_p0 h_p2 ad_p0 ad_p2 p0_places p0_steps p0_coloured p0_closed p0_heeds p0_needs p0_placeKinds p0_stepKinds p0_takes p0_wants p2_many p2_things) sz)) 0 0 (va_A (wld_X5_goesWhere cI cJ cZ h_p0 h_p2 ad_p0 ad_p2 p0_places p0_steps p0_coloured p0_closed p0_heeds p0_needs p0_placeKinds p0_stepKinds p0_takes p0_wants p2_many p2_things) sz) := by
  refine x_met (cc := cX5_goesWhere) (maxL := 4) (ret := (some .boolean)) (own := RX5) (Qc := fun A => (q_X5_goesWhere dC dI cI cJ cZ h_p0 h_p2 ad_p0 ad_p2 p0_places p0_steps p0_coloured p0_closed p0_heeds p0_needs p0_placeKinds p0_stepKinds p0_takes p0_wants p2_many p2_things post A)) (by decide) rfl rfl (Nat.le_of_ble_eq_true rfl) ?_
  intro p e s m args below meth c A ls E0 hP hD hS hl
  obtain ⟨hx, hb, hr, hml, hown, hts, hlocks, hK, hA, n1, n2⟩ := id E0
  have iX3 : ∀ w ∈ u_ws RX3 TX3 2, w ∈ wsX5_goesWhere := fun w h => List.mem_cons_of_mem _ (List.mem_append_right _ h)
  have iX5 : ∀ w ∈ u_ws RX5 TX5 14, w ∈ wsX5_goesWhere := fun w h => List.mem_cons_of_mem _ (List.mem_append_left _ (List.mem_append_right _ h))
  have hS0 := hS
  have hl : lv_has ls 4 [(0, .ref h_p0), (1, .int a1), (2, .ref h_p2), (3, .int a3)] := hl
  unfold w_X5_goesWhere at hw
  obtain ⟨H, hH⟩ : ∃ H, H = s.heap := ⟨_, rfl⟩
  have hS : va_S A s.heap H [] := by rw [hH]; exact hS
  have hP : va_P (dC, dI) vwCl (wld_X5_goesWhere cI cJ cZ h_p0 h_p2 ad_p0 ad_p2 p0_places p0_steps p0_coloured p0_closed p0_heeds p0_needs p0_placeKinds p0_stepKinds p0_takes p0_wants p2_many p2_things) H := by rw [hH]; exact hP
  suffices hG : W p l e ({ frames := 3, cells := 0, slots := 0, locals := 72 }) s m args below meth c H [] 0 0 (MQ below (q_X5_goesWhere dC dI cI cJ cZ h_p0 h_p2 ad_p0 ad_p2 p0_places p0_steps p0_coloured p0_closed p0_heeds p0_needs p0_placeKinds p0_stepKinds p0_takes p0_wants p2_many p2_things post A) args s 0 0 A) (F0 m 0 ls []) by rw [hH] at hG; exact hG
  clear hH
  refine lv_iload_n hx hb dX5_goesWhere_0 rfl (lv_at hl 1 rfl) ?_
  refine lv_if_eq (tgt := 14) hx hb dX5_goesWhere_1 (by decide) (fun c1 => ?_) (fun c2 => ?_)
  · have hw := hw.1 c1
    refine lv_aload_n hx hb dX5_goesWhere_14 rfl (lv_at hl 0 rfl) ?_
    refine lv_aload_n hx hb dX5_goesWhere_15 rfl (lv_at hl 2 rfl) ?_
    refine lv_iload_n hx hb dX5_goesWhere_16 rfl (lv_at hl 3 rfl) ?_
    obtain ⟨hPc, hDc⟩ := x_sub (wc := (wld_X5_allows cI cJ cZ h_p0 h_p2 ad_p0 ad_p2 p0_places p0_steps p0_coloured p0_closed p0_heeds p0_needs p0_placeKinds p0_takes p0_wants p2_many p2_things)) hP hD [0, 1, 2, 3, 4, 6, 7, 8, 9, 10] (n := 11) rfl rfl (by decide +kernel)
    refine x_calli (ws' := fun (u : Unit) => (wld_X5_goesWhere cI cJ cZ h_p0 h_p2 ad_p0 ad_p2 p0_places p0_steps p0_coloured p0_closed p0_heeds p0_needs p0_placeKinds p0_stepKinds p0_takes p0_wants p2_many p2_things)) hP hD hS hA [0, 1, 2, 3, 4, 6, 7, 8, 9, 10] [5] [1, 2, 3, 4, 5, 0, 6, 7, 8, 9, 10] (n := 11) (k := 10) rfl (fun _ => rfl) rfl (by decide +kernel) (fun _ => rfl) (va_runV (As := [.ref h_p2, .int a3]) (rest := []) ⟨hx, hb, hml, hown, hts⟩ (c_X5_allows (l := l) (dC := dC) (dI := dI) (cI := cI) (cJ := cJ) (cZ := cZ) (sz := H.size) (h_p0 := h_p0) (h_p1 := h_p2) (ad_p0 := ad_p0) (ad_p1 := ad_p2) (p0_places := p0_places) (p0_steps := p0_steps) (p0_coloured := p0_coloured) (p0_closed := p0_closed) (p0_heeds := p0_heeds) (p0_needs := p0_needs) (p0_placeKinds := p0_placeKinds) (p0_takes := p0_takes) (p0_wants := p0_wants) (p1_many := p2_many) (p1_things := p2_things) hw) (cwV 2 hts gX5_goesWhere_X5_allows rfl rfl rfl (by decide +kernel) ⟨Nat.le_of_ble_eq_true rfl, Nat.le_of_ble_eq_true rfl⟩) ⟨xPre_blind, va_recv hK hP (ci := 5) (q0 := 0) rfl rfl, xPre_at hK hPc hDc n1 n2⟩ rfl rfl hl.1 rfl (lv_room (Nat.le_of_ble_eq_true rfl)) dX5_goesWhere_17 ⟨Nat.zero_le _, Nat.zero_le _⟩) (fun r3 u H locs hw hP hD hS => ?_)
    try dsimp only at hw
    have hP : va_P (dC, dI) vwCl (wld_X5_goesWhere cI cJ cZ h_p0 h_p2 ad_p0 ad_p2 p0_places p0_steps p0_coloured p0_closed p0_heeds p0_needs p0_placeKinds p0_stepKinds p0_takes p0_wants p2_many p2_things) H := hP
    have hD : va_D A (wld_X5_goesWhere cI cJ cZ h_p0 h_p2 ad_p0 ad_p2 p0_places p0_steps p0_coloured p0_closed p0_heeds p0_needs p0_placeKinds p0_stepKinds p0_takes p0_wants p2_many p2_things) := hD
    refine lv_if_eq (tgt := 27) hx hb dX5_goesWhere_20 (by decide) (fun c4 => ?_) (fun c5 => ?_)
    · have hw := hw.1 c4
      refine lv_iconst (v := 0) hx hb dX5_goesWhere_27 (by decide) ?_
      exact x_zret (w1 := fun (u : Unit) => (wld_X5_goesWhere cI cJ cZ h_p0 h_p2 ad_p0 ad_p2 p0_places p0_steps p0_coloured p0_closed p0_heeds p0_needs p0_placeKinds p0_stepKinds p0_takes p0_wants p2_many p2_things)) hx hb hr hlocks (by decide) () hw hP hD hS dX5_goesWhere_28
    · have hw := hw.2 c5
      refine lv_iconst (v := 1) hx hb dX5_goesWhere_23 (by decide) ?_
      refine lv_goto (tgt := 28) hx hb dX5_goesWhere_24 (by decide) ?_
      exact x_zret (w1 := fun (u : Unit) => (wld_X5_goesWhere cI cJ cZ h_p0 h_p2 ad_p0 ad_p2 p0_places p0_steps p0_coloured p0_closed p0_heeds p0_needs p0_placeKinds p0_stepKinds p0_takes p0_wants p2_many p2_things)) hx hb hr hlocks (by decide) () hw hP hD hS dX5_goesWhere_28
  · have hw := hw.2 c2
    refine lv_aload_n hx hb dX5_goesWhere_4 rfl (lv_at hl 0 rfl) ?_
    refine va_get (D := (dC, dI)) (ci := 5) (v := .ref (ad_p0 1)) (C := RX5) (T := TX5) (N := 14) hx hb hts iX5 hown hK hP 0 rfl rfl 1 (by decide) (hts (.fieldLink RX5 15 "NetHouse$Net" "stepKinds" "[I") (by decide +kernel)) (fun _ h9 => h9) rfl dX5_goesWhere_5 ?_
    refine lv_iload_n hx hb dX5_goesWhere_8 rfl (lv_at hl 3 rfl) ?_
    refine va_iald hx hb hK hP 5 0 rfl rfl hw.1 dX5_goesWhere_9 ?_
    have hw := hw.2
    refine lv_iconst (v := 3) hx hb dX5_goesWhere_10 (by decide) ?_
    refine lv_icmp_ne (tgt := 27) hx hb dX5_goesWhere_11 (by decide) (fun c6 => ?_) (fun c7 => ?_)
    · have hw := hw.1 c6
      refine lv_iconst (v := 0) hx hb dX5_goesWhere_27 (by decide) ?_
      exact x_zret (w1 := fun (u : Unit) => (wld_X5_goesWhere cI cJ cZ h_p0 h_p2 ad_p0 ad_p2 p0_places p0_steps p0_coloured p0_closed p0_heeds p0_needs p0_placeKinds p0_stepKinds p0_takes p0_wants p2_many p2_things)) hx hb hr hlocks (by decide) () hw hP hD hS dX5_goesWhere_28
    · have hw := hw.2 c7
      refine lv_aload_n hx hb dX5_goesWhere_14 rfl (lv_at hl 0 rfl) ?_
      refine lv_aload_n hx hb dX5_goesWhere_15 rfl (lv_at hl 2 rfl) ?_
      refine lv_iload_n hx hb dX5_goesWhere_16 rfl (lv_at hl 3 rfl) ?_
      obtain ⟨hPc, hDc⟩ := x_sub (wc := (wld_X5_allows cI cJ cZ h_p0 h_p2 ad_p0 ad_p2 p0_places p0_steps p0_coloured p0_closed p0_heeds p0_needs p0_placeKinds p0_takes p0_wants p2_many p2_things)) hP hD [0, 1, 2, 3, 4, 6, 7, 8, 9, 10] (n := 11) rfl rfl (by decide +kernel)
      refine x_calli (ws' := fun (u : Unit) => (wld_X5_goesWhere cI cJ cZ h_p0 h_p2 ad_p0 ad_p2 p0_places p0_steps p0_coloured p0_closed p0_heeds p0_needs p0_placeKinds p0_stepKinds p0_takes p0_wants p2_many p2_things)) hP hD hS hA [0, 1, 2, 3, 4, 6, 7, 8, 9, 10] [5] [1, 2, 3, 4, 5, 0, 6, 7, 8, 9, 10] (n := 11) (k := 10) rfl (fun _ => rfl) rfl (by decide +kernel) (fun _ => rfl) (va_runV (As := [.ref h_p2, .int a3]) (rest := []) ⟨hx, hb, hml, hown, hts⟩ (c_X5_allows (l := l) (dC := dC) (dI := dI) (cI := cI) (cJ := cJ) (cZ := cZ) (sz := H.size) (h_p0 := h_p0) (h_p1 := h_p2) (ad_p0 := ad_p0) (ad_p1 := ad_p2) (p0_places := p0_places) (p0_steps := p0_steps) (p0_coloured := p0_coloured) (p0_closed := p0_closed) (p0_heeds := p0_heeds) (p0_needs := p0_needs) (p0_placeKinds := p0_placeKinds) (p0_takes := p0_takes) (p0_wants := p0_wants) (p1_many := p2_many) (p1_things := p2_things) hw) (cwV 2 hts gX5_goesWhere_X5_allows rfl rfl rfl (by decide +kernel) ⟨Nat.le_of_ble_eq_true rfl, Nat.le_of_ble_eq_true rfl⟩) ⟨xPre_blind, va_recv hK hP (ci := 5) (q0 := 0) rfl rfl, xPre_at hK hPc hDc n1 n2⟩ rfl rfl hl.1 rfl (lv_room (Nat.le_of_ble_eq_true rfl)) dX5_goesWhere_17 ⟨Nat.zero_le _, Nat.zero_le _⟩) (fun r8 u H locs hw hP hD hS => ?_)
      try dsimp only at hw
      have hP : va_P (dC, dI) vwCl (wld_X5_goesWhere cI cJ cZ h_p0 h_p2 ad_p0 ad_p2 p0_places p0_steps p0_coloured p0_closed p0_heeds p0_needs p0_placeKinds p0_stepKinds p0_takes p0_wants p2_many p2_things) H := hP
      have hD : va_D A (wld_X5_goesWhere cI cJ cZ h_p0 h_p2 ad_p0 ad_p2 p0_places p0_steps p0_coloured p0_closed p0_heeds p0_needs p0_placeKinds p0_stepKinds p0_takes p0_wants p2_many p2_things) := hD
      refine lv_if_eq (tgt := 27) hx hb dX5_goesWhere_20 (by decide) (fun c9 => ?_) (fun c10 => ?_)
      · have hw := hw.1 c9
        refine lv_iconst (v := 0) hx hb dX5_goesWhere_27 (by decide) ?_
        exact x_zret (w1 := fun (u : Unit) => (wld_X5_goesWhere cI cJ cZ h_p0 h_p2 ad_p0 ad_p2 p0_places p0_steps p0_coloured p0_closed p0_heeds p0_needs p0_placeKinds p0_stepKinds p0_takes p0_wants p2_many p2_things)) hx hb hr hlocks (by decide) () hw hP hD hS dX5_goesWhere_28
      · have hw := hw.2 c10
        refine lv_iconst (v := 1) hx hb dX5_goesWhere_23 (by decide) ?_
        refine lv_goto (tgt := 28) hx hb dX5_goesWhere_24 (by decide) ?_
        exact x_zret (w1 := fun (u : Unit) => (wld_X5_goesWhere cI cJ cZ h_p0 h_p2 ad_p0 ad_p2 p0_places p0_steps p0_coloured p0_closed p0_heeds p0_needs p0_placeKinds p0_stepKinds p0_takes p0_wants p2_many p2_things)) hx hb hr hlocks (by decide) () hw hP hD hS dX5_goesWhere_28
abbrev wld_X3_append (cI cJ cZ : ClassId) (h_p0 : Nat) (ad_p0 : Nat → Nat) (p0_many : Nat → Int32) (p0_things : Nat → Int64) : va_W := [(h_p0, .inr (3, [.ref (ad_p0 0), .ref (ad_p0 1)])), ((ad_p0 0), .inl (cI, 16, .inl p0_many)), ((ad_p0 1), .inl (cJ, 16, .inr (.inl p0_things)))]
abbrev q_X3_append (dC : Nat → ClassId) (dI : Nat → Nat → Nat) (cI cJ cZ : ClassId) (h_p0 : Nat) (ad_p0 : Nat → Nat) (p0_many : Nat → Int32) (p0_things : Nat → Int64) (post : (Nat → Int32) → (Nat → Int64) → Prop) (A : Nat → Prop) : Array Value → State → Outcome → State → Prop := va_Qv (fun (u : (Nat → Int32) × (Nat → Int64)) => post (u.1) (u.2)) (fun (u : (Nat → Int32) × (Nat → Int64)) t => xPost (dC, dI) A (wld_X3_append cI cJ cZ h_p0 ad_p0 (u.1) (u.2)) t) A
def w_X3_append (p0_many : Nat → Int32) (p0_things : Nat → Int64) (a1 : Int32) (a2 : Int32) (post : (Nat → Int32) → (Nat → Int64) → Prop) : Prop :=
  vp_in a1 16 ∧
  vp_in a1 16 ∧
  vp_in a1 16 ∧
  vp_in a1 16 ∧
  vp_in a1 16 ∧
  (post (upd p0_many a1.toNatClampNeg ((p0_many a1.toNatClampNeg) + (1 : Int32))) (vp_updL p0_things a1.toNatClampNeg ((p0_things a1.toNatClampNeg) ||| (a2.toInt64 <<< (((2 : Int32) * (p0_many a1.toNatClampNeg)).toInt64 &&& 63)))))
set_option maxHeartbeats 4000000 in
set_option maxRecDepth 100000 in
theorem c_X3_append {l : Launch} {dC : Nat → ClassId} {dI : Nat → Nat → Nat} {sz : Nat} {cI cJ cZ : ClassId} {h_p0 : Nat} {ad_p0 : Nat → Nat} {p0_many : Nat → Int32} {p0_things : Nat → Int64} {a1 : Int32} {a2 : Int32} {post : (Nat → Int32) → (Nat → Int64) → Prop} (hw : w_X3_append p0_many p0_things a1 a2 post) : Met l yX3_append wsX3_append ({ frames := 0, cells := 0, slots := 0, locals := 0 }) (va_Pc [.ref h_p0, .int a1, .int a2] (xPre (dC, dI) cI cJ cZ (wld_X3_append cI cJ cZ h_p0 ad_p0 p0_many p0_things) sz)) (q_X3_append dC dI cI cJ cZ h_p0 ad_p0 p0_many p0_things post (va_A (wld_X3_append cI cJ cZ h_p0 ad_p0 p0_many p0_things) sz)) 0 0 (va_A (wld_X3_append cI cJ cZ h_p0 ad_p0 p0_many p0_things) sz) := by
  refine x_met (cc := cX3_append) (maxL := 3) (ret := none) (own := RX3) (Qc := fun A => (q_X3_append dC dI cI cJ cZ h_p0 ad_p0 p0_many p0_things post A)) (by decide) rfl rfl (Nat.le_of_ble_eq_true rfl) ?_
  intro p e s m args below meth c A ls E0 hP hD hS hl
  obtain ⟨hx, hb, hr, hml, hown, hts, hlocks, hK, hA, n1, n2⟩ := id E0
  have iX3 : ∀ w ∈ u_ws RX3 TX3 2, w ∈ wsX3_append := fun w h => List.mem_cons_of_mem _ (List.mem_append_right _ h)
  have hS0 := hS
  have hl : lv_has ls 3 [(0, .ref h_p0), (1, .int a1), (2, .int a2)] := hl
  unfold w_X3_append at hw
  obtain ⟨H, hH⟩ : ∃ H, H = s.heap := ⟨_, rfl⟩
  have hS : va_S A s.heap H [] := by rw [hH]; exact hS
  have hP : va_P (dC, dI) vwCl (wld_X3_append cI cJ cZ h_p0 ad_p0 p0_many p0_things) H := by rw [hH]; exact hP
  suffices hG : W p l e ({ frames := 0, cells := 0, slots := 0, locals := 0 }) s m args below meth c H [] 0 0 (MQ below (q_X3_append dC dI cI cJ cZ h_p0 ad_p0 p0_many p0_things post A) args s 0 0 A) (F0 m 0 ls []) by rw [hH] at hG; exact hG
  clear hH
  refine lv_aload_n hx hb dX3_append_0 rfl (lv_at hl 0 rfl) ?_
  refine va_get (D := (dC, dI)) (ci := 3) (v := .ref (ad_p0 1)) (C := RX3) (T := TX3) (N := 2) hx hb hts iX3 hown hK hP 0 rfl rfl 1 (by decide) (hts (.fieldLink RX3 15 "NetHouse$Holding" "things" "[J") (by decide +kernel)) (fun _ h9 => h9) rfl dX3_append_1 ?_
  refine lv_iload_n hx hb dX3_append_4 rfl (lv_at hl 1 rfl) ?_
  refine lv_dup2_11 hx hb dX3_append_5 rfl rfl ?_
  refine va_lald hx hb hK hP 2 1 rfl rfl hw.1 dX3_append_6 ?_
  have hw := hw.2
  refine lv_iload_n hx hb dX3_append_7 rfl (lv_at hl 2 rfl) ?_
  refine lv_i2l hx hb dX3_append_8 rfl ?_
  refine lv_iconst (v := 2) hx hb dX3_append_9 (by decide) ?_
  refine lv_aload_n hx hb dX3_append_10 rfl (lv_at hl 0 rfl) ?_
  refine va_get (D := (dC, dI)) (ci := 3) (v := .ref (ad_p0 0)) (C := RX3) (T := TX3) (N := 2) hx hb hts iX3 hown hK hP 0 rfl rfl 0 (by decide) (hts (.fieldLink RX3 9 "NetHouse$Holding" "many" "[I") (by decide +kernel)) (fun _ h9 => h9) rfl dX3_append_11 ?_
  refine lv_iload_n hx hb dX3_append_14 rfl (lv_at hl 1 rfl) ?_
  refine va_iald hx hb hK hP 1 0 rfl rfl hw.1 dX3_append_15 ?_
  have hw := hw.2
  refine lv_imul hx hb dX3_append_16 ?_
  refine lv_lshl hx hb dX3_append_17 rfl ?_
  refine lv_lor hx hb dX3_append_18 ?_
  refine va_last hx hb hK hP hD hS 2 1 rfl rfl hw.1 dX3_append_19 (fun H locs hP hD hS => ?_)
  have hw := hw.2
  have hP : va_P (dC, dI) vwCl (wld_X3_append cI cJ cZ h_p0 ad_p0 p0_many (vp_updL p0_things a1.toNatClampNeg ((p0_things a1.toNatClampNeg) ||| (a2.toInt64 <<< (((2 : Int32) * (p0_many a1.toNatClampNeg)).toInt64 &&& 63))))) H := hP
  have hD : va_D A (wld_X3_append cI cJ cZ h_p0 ad_p0 p0_many (vp_updL p0_things a1.toNatClampNeg ((p0_things a1.toNatClampNeg) ||| (a2.toInt64 <<< (((2 : Int32) * (p0_many a1.toNatClampNeg)).toInt64 &&& 63))))) := hD
  refine lv_aload_n hx hb dX3_append_20 rfl (lv_at hl 0 rfl) ?_
  refine va_get (D := (dC, dI)) (ci := 3) (v := .ref (ad_p0 0)) (C := RX3) (T := TX3) (N := 2) hx hb hts iX3 hown hK hP 0 rfl rfl 0 (by decide) (hts (.fieldLink RX3 9 "NetHouse$Holding" "many" "[I") (by decide +kernel)) (fun _ h9 => h9) rfl dX3_append_21 ?_
  refine lv_iload_n hx hb dX3_append_24 rfl (lv_at hl 1 rfl) ?_
  refine lv_dup2_11 hx hb dX3_append_25 rfl rfl ?_
  refine va_iald hx hb hK hP 1 0 rfl rfl hw.1 dX3_append_26 ?_
  have hw := hw.2
  refine lv_iconst (v := 1) hx hb dX3_append_27 (by decide) ?_
  refine lv_iadd hx hb dX3_append_28 ?_
  refine va_iast hx hb hK hP hD hS 1 0 rfl rfl hw.1 dX3_append_29 (fun H locs hP hD hS => ?_)
  have hw := hw.2
  have hP : va_P (dC, dI) vwCl (wld_X3_append cI cJ cZ h_p0 ad_p0 (upd p0_many a1.toNatClampNeg ((p0_many a1.toNatClampNeg) + (1 : Int32))) (vp_updL p0_things a1.toNatClampNeg ((p0_things a1.toNatClampNeg) ||| (a2.toInt64 <<< (((2 : Int32) * (p0_many a1.toNatClampNeg)).toInt64 &&& 63))))) H := hP
  have hD : va_D A (wld_X3_append cI cJ cZ h_p0 ad_p0 (upd p0_many a1.toNatClampNeg ((p0_many a1.toNatClampNeg) + (1 : Int32))) (vp_updL p0_things a1.toNatClampNeg ((p0_things a1.toNatClampNeg) ||| (a2.toInt64 <<< (((2 : Int32) * (p0_many a1.toNatClampNeg)).toInt64 &&& 63))))) := hD
  exact x_vret (w1 := fun (u : (Nat → Int32) × (Nat → Int64)) => (wld_X3_append cI cJ cZ h_p0 ad_p0 (u.1) (u.2))) hx hb hr hlocks ((upd p0_many a1.toNatClampNeg ((p0_many a1.toNatClampNeg) + (1 : Int32))), (vp_updL p0_things a1.toNatClampNeg ((p0_things a1.toNatClampNeg) ||| (a2.toInt64 <<< (((2 : Int32) * (p0_many a1.toNatClampNeg)).toInt64 &&& 63))))) hw hP hD hS dX3_append_30
abbrev wld_X3_appendMany (cI cJ cZ : ClassId) (h_p0 : Nat) (ad_p0 : Nat → Nat) (p0_many : Nat → Int32) (p0_things : Nat → Int64) : va_W := [(h_p0, .inr (3, [.ref (ad_p0 0), .ref (ad_p0 1)])), ((ad_p0 0), .inl (cI, 16, .inl p0_many)), ((ad_p0 1), .inl (cJ, 16, .inr (.inl p0_things)))]
abbrev q_X3_appendMany (dC : Nat → ClassId) (dI : Nat → Nat → Nat) (cI cJ cZ : ClassId) (h_p0 : Nat) (ad_p0 : Nat → Nat) (p0_many : Nat → Int32) (p0_things : Nat → Int64) (post : (Nat → Int32) → (Nat → Int64) → Prop) (A : Nat → Prop) : Array Value → State → Outcome → State → Prop := va_Qv (fun (u : (Nat → Int32) × (Nat → Int64)) => post (u.1) (u.2)) (fun (u : (Nat → Int32) × (Nat → Int64)) t => xPost (dC, dI) A (wld_X3_appendMany cI cJ cZ h_p0 ad_p0 (u.1) (u.2)) t) A
def w_X3_appendMany_L3b (v1 : Int32) (v2 : Int32) (v3 : Int32) (post : (Nat → Int32) → (Nat → Int64) → Prop) (K : (Int32) → (Nat → Int32) → (Nat → Int64) → Prop) (rec : (Int32) → (Nat → Int32) → (Nat → Int64) → Prop) (v4 : Int32) (p0_many : Nat → Int32) (p0_things : Nat → Int64) : Prop :=
    (v2 ≤ v4 →
      K v4 p0_many p0_things) ∧
    (¬ v2 ≤ v4 →
      w_X3_append p0_many p0_things v1 v3 (fun y3 y4 =>
      ∀ x5 : Int32, x5 = v4 + (1 : Int32) →
      rec x5 y3 y4))
def w_X3_appendMany_L3 (v1 : Int32) (v2 : Int32) (v3 : Int32) (post : (Nat → Int32) → (Nat → Int64) → Prop) (K : (Int32) → (Nat → Int32) → (Nat → Int64) → Prop) : Nat → (Int32) → (Nat → Int32) → (Nat → Int64) → Prop
  | 0, _, _, _ => False
  | n + 1, v4, p0_many, p0_things => w_X3_appendMany_L3b v1 v2 v3 post K (w_X3_appendMany_L3 v1 v2 v3 post K n) v4 p0_many p0_things
def w_X3_appendMany (p0_many : Nat → Int32) (p0_things : Nat → Int64) (a1 : Int32) (a2 : Int32) (a3 : Int32) (post : (Nat → Int32) → (Nat → Int64) → Prop) : Prop :=
  ∃ n : Nat, w_X3_appendMany_L3 a1 a2 a3 post (fun v7 s8 s9 =>
      (post s8 s9)) n (0 : Int32) p0_many p0_things
set_option maxHeartbeats 4000000 in
set_option maxRecDepth 100000 in
theorem c_X3_appendMany_L3 {p : Program} {l : Launch} {e : Env} {s : State} {m : MethodId} {args : Array Value} {below : List Frame} {meth : Method} {c : Code} {dC : Nat → ClassId} {dI : Nat → Nat → Nat} {A : Nat → Prop} {cI cJ cZ : ClassId} {h_p0 : Nat} {ad_p0 : Nat → Nat} {v1 : Int32} {v2 : Int32} {v3 : Int32} {z_p0_many : Nat → Int32} {z_p0_things : Nat → Int64} {post : (Nat → Int32) → (Nat → Int64) → Prop} {K : (Int32) → (Nat → Int32) → (Nat → Int64) → Prop} (E0 : xEnv p s m args meth c cX3_appendMany none 5 RX3 wsX3_appendMany (dC, dI) cI cJ cZ A) (hk : ∀ (v4 : Int32) (p0_many : Nat → Int32) (p0_things : Nat → Int64) (H : Heap) (locs : List Loc) (ls : Array Slot), K v4 p0_many p0_things → va_P (dC, dI) vwCl (wld_X3_appendMany cI cJ cZ h_p0 ad_p0 p0_many p0_things) H → va_D A (wld_X3_appendMany cI cJ cZ h_p0 ad_p0 p0_many p0_things) → va_S A s.heap H locs → lv_has ls 5 [] → W p l e ({ frames := 1, cells := 0, slots := 0, locals := 22 }) s m args below meth c H locs 0 0 (MQ below (q_X3_appendMany dC dI cI cJ cZ h_p0 ad_p0 z_p0_many z_p0_things post A) args s 0 0 A) (F0 m 21 ls [])) : ∀ (n : Nat) (v4 : Int32) (p0_many : Nat → Int32) (p0_things : Nat → Int64), w_X3_appendMany_L3 v1 v2 v3 post K n v4 p0_many p0_things → ∀ (H : Heap) (locs : List Loc) (ls : Array Slot), va_P (dC, dI) vwCl (wld_X3_appendMany cI cJ cZ h_p0 ad_p0 p0_many p0_things) H → va_D A (wld_X3_appendMany cI cJ cZ h_p0 ad_p0 p0_many p0_things) → va_S A s.heap H locs → lv_has ls 5 [(0, .ref h_p0), (1, .int v1), (2, .int v2), (3, .int v3), (4, .int v4)] → W p l e ({ frames := 1, cells := 0, slots := 0, locals := 22 }) s m args below meth c H locs 0 0 (MQ below (q_X3_appendMany dC dI cI cJ cZ h_p0 ad_p0 z_p0_many z_p0_things post A) args s 0 0 A) (F0 m 3 ls []) := by
  obtain ⟨hx, hb, hr, hml, hown, hts, hlocks, hK, hA, n1, n2⟩ := id E0
  have iX3 : ∀ w ∈ u_ws RX3 TX3 2, w ∈ wsX3_appendMany := fun w h => List.mem_cons_of_mem _ (List.mem_append_right _ h)
  intro n
  induction n with
  | zero => intro v4 p0_many p0_things hw; exact hw.elim
  | succ n ih =>
    intro v4 p0_many p0_things hw H locs ls hP hD hS hl
    have hw : w_X3_appendMany_L3b v1 v2 v3 post K (w_X3_appendMany_L3 v1 v2 v3 post K n) v4 p0_many p0_things := hw
    unfold w_X3_appendMany_L3b at hw
    refine lv_iload hx hb dX3_appendMany_3 (lv_at hl 4 rfl) ?_
    refine lv_iload_n hx hb dX3_appendMany_5 rfl (lv_at hl 2 rfl) ?_
    refine lv_icmp_ge (tgt := 21) hx hb dX3_appendMany_6 (by decide) (fun c1 => ?_) (fun c2 => ?_)
    · have hw := hw.1 c1
      exact hk _ _ _ _ _ _ hw hP hD hS (lv_sub hl [] rfl)
    · have hw := hw.2 c2
      refine lv_aload_n hx hb dX3_appendMany_9 rfl (lv_at hl 0 rfl) ?_
      refine lv_iload_n hx hb dX3_appendMany_10 rfl (lv_at hl 1 rfl) ?_
      refine lv_iload_n hx hb dX3_appendMany_11 rfl (lv_at hl 3 rfl) ?_
      obtain ⟨hPc, hDc⟩ := x_sub (wc := (wld_X3_append cI cJ cZ h_p0 ad_p0 p0_many p0_things)) hP hD [0, 1, 2] (n := 3) rfl rfl (by decide +kernel)
      refine x_callv (ws' := fun (u : (Nat → Int32) × (Nat → Int64)) => (wld_X3_appendMany cI cJ cZ h_p0 ad_p0 (u.1) (u.2))) hP hD hS hA [0, 1, 2] [] [0, 1, 2] (n := 3) (k := 3) rfl (fun _ => rfl) rfl (by decide +kernel) (fun _ => rfl) (va_runV (As := [.int v1, .int v3]) (rest := []) ⟨hx, hb, hml, hown, hts⟩ (c_X3_append (l := l) (dC := dC) (dI := dI) (cI := cI) (cJ := cJ) (cZ := cZ) (sz := H.size) (h_p0 := h_p0) (ad_p0 := ad_p0) (p0_many := p0_many) (p0_things := p0_things) hw) (cwV 2 hts gX3_appendMany_X3_append rfl rfl rfl (by decide +kernel) ⟨Nat.le_of_ble_eq_true rfl, Nat.le_of_ble_eq_true rfl⟩) ⟨xPre_blind, va_recv hK hP (ci := 3) (q0 := 0) rfl rfl, xPre_at hK hPc hDc n1 n2⟩ rfl rfl hl.1 rfl (lv_room (Nat.le_of_ble_eq_true rfl)) dX3_appendMany_12 ⟨Nat.zero_le _, Nat.zero_le _⟩) (fun u H locs hw hP hD hS => ?_)
      obtain ⟨y3, y4⟩ := u
      try dsimp only at hw
      have hP : va_P (dC, dI) vwCl (wld_X3_appendMany cI cJ cZ h_p0 ad_p0 y3 y4) H := hP
      have hD : va_D A (wld_X3_appendMany cI cJ cZ h_p0 ad_p0 y3 y4) := hD
      obtain ⟨x5, ex5⟩ : ∃ y : Int32, y = v4 + (1 : Int32) := ⟨_, rfl⟩
      have hw := hw x5 ex5
      refine lv_iinc (v := x5) (lv' := [(4, .int x5), (0, .ref h_p0), (1, .int v1), (2, .int v2), (3, .int v3)]) hx hb dX3_appendMany_15 hl (k := 4) rfl (by rw [ex5]; rfl) (by decide) rfl (fun ls hl => ?_)
      refine lv_goto (tgt := 3) hx hb dX3_appendMany_18 (by decide) ?_
      exact ih _ _ _ hw _ _ _ hP hD hS (lv_sub hl [1, 2, 3, 4, 0] rfl)
set_option maxHeartbeats 4000000 in
set_option maxRecDepth 100000 in
theorem c_X3_appendMany {l : Launch} {dC : Nat → ClassId} {dI : Nat → Nat → Nat} {sz : Nat} {cI cJ cZ : ClassId} {h_p0 : Nat} {ad_p0 : Nat → Nat} {p0_many : Nat → Int32} {p0_things : Nat → Int64} {a1 : Int32} {a2 : Int32} {a3 : Int32} {post : (Nat → Int32) → (Nat → Int64) → Prop} (hw : w_X3_appendMany p0_many p0_things a1 a2 a3 post) : Met l yX3_appendMany wsX3_appendMany ({ frames := 1, cells := 0, slots := 0, locals := 22 }) (va_Pc [.ref h_p0, .int a1, .int a2, .int a3] (xPre (dC, dI) cI cJ cZ (wld_X3_appendMany cI cJ cZ h_p0 ad_p0 p0_many p0_things) sz)) (q_X3_appendMany dC dI cI cJ cZ h_p0 ad_p0 p0_many p0_things post (va_A (wld_X3_appendMany cI cJ cZ h_p0 ad_p0 p0_many p0_things) sz)) 0 0 (va_A (wld_X3_appendMany cI cJ cZ h_p0 ad_p0 p0_many p0_things) sz) := by
  refine x_met (cc := cX3_appendMany) (maxL := 5) (ret := none) (own := RX3) (Qc := fun A => (q_X3_appendMany dC dI cI cJ cZ h_p0 ad_p0 p0_many p0_things post A)) (by decide) rfl rfl (Nat.le_of_ble_eq_true rfl) ?_
  intro p e s m args below meth c A ls E0 hP hD hS hl
  obtain ⟨hx, hb, hr, hml, hown, hts, hlocks, hK, hA, n1, n2⟩ := id E0
  have iX3 : ∀ w ∈ u_ws RX3 TX3 2, w ∈ wsX3_appendMany := fun w h => List.mem_cons_of_mem _ (List.mem_append_right _ h)
  have hS0 := hS
  have hl : lv_has ls 5 [(0, .ref h_p0), (1, .int a1), (2, .int a2), (3, .int a3)] := hl
  unfold w_X3_appendMany at hw
  obtain ⟨H, hH⟩ : ∃ H, H = s.heap := ⟨_, rfl⟩
  have hS : va_S A s.heap H [] := by rw [hH]; exact hS
  have hP : va_P (dC, dI) vwCl (wld_X3_appendMany cI cJ cZ h_p0 ad_p0 p0_many p0_things) H := by rw [hH]; exact hP
  suffices hG : W p l e ({ frames := 1, cells := 0, slots := 0, locals := 22 }) s m args below meth c H [] 0 0 (MQ below (q_X3_appendMany dC dI cI cJ cZ h_p0 ad_p0 p0_many p0_things post A) args s 0 0 A) (F0 m 0 ls []) by rw [hH] at hG; exact hG
  clear hH
  refine lv_iconst (v := 0) hx hb dX3_appendMany_0 (by decide) ?_
  refine lv_istore (lv' := [(4, .int (0 : Int32)), (0, .ref h_p0), (1, .int a1), (2, .int a2), (3, .int a3)]) hx hb dX3_appendMany_1 hl (by decide) rfl (fun ls hl => ?_)
  obtain ⟨n6, hw⟩ := hw
  refine c_X3_appendMany_L3 (l := l) (z_p0_many := p0_many) (z_p0_things := p0_things) E0 ?_ n6 _ _ _ hw _ _ _ hP hD hS (lv_sub hl [1, 2, 3, 4, 0] rfl)
  · intro v7 s8 s9 H locs ls hw hP hD hS hl
    have hP : va_P (dC, dI) vwCl (wld_X3_appendMany cI cJ cZ h_p0 ad_p0 s8 s9) H := hP
    have hD : va_D A (wld_X3_appendMany cI cJ cZ h_p0 ad_p0 s8 s9) := hD
    exact x_vret (w1 := fun (u : (Nat → Int32) × (Nat → Int64)) => (wld_X3_appendMany cI cJ cZ h_p0 ad_p0 (u.1) (u.2))) hx hb hr hlocks (s8, s9) hw hP hD hS dX3_appendMany_21
abbrev wld_X3_empty (cI cJ cZ : ClassId) (h_p0 : Nat) (ad_p0 : Nat → Nat) (p0_many : Nat → Int32) (p0_things : Nat → Int64) : va_W := [(h_p0, .inr (3, [.ref (ad_p0 0), .ref (ad_p0 1)])), ((ad_p0 0), .inl (cI, 16, .inl p0_many)), ((ad_p0 1), .inl (cJ, 16, .inr (.inl p0_things)))]
abbrev q_X3_empty (dC : Nat → ClassId) (dI : Nat → Nat → Nat) (cI cJ cZ : ClassId) (h_p0 : Nat) (ad_p0 : Nat → Nat) (p0_many : Nat → Int32) (p0_things : Nat → Int64) (post : (Nat → Int32) → (Nat → Int64) → Prop) (A : Nat → Prop) : Array Value → State → Outcome → State → Prop := va_Qv (fun (u : (Nat → Int32) × (Nat → Int64)) => post (u.1) (u.2)) (fun (u : (Nat → Int32) × (Nat → Int64)) t => xPost (dC, dI) A (wld_X3_empty cI cJ cZ h_p0 ad_p0 (u.1) (u.2)) t) A
def w_X3_empty (p0_many : Nat → Int32) (p0_things : Nat → Int64) (a1 : Int32) (post : (Nat → Int32) → (Nat → Int64) → Prop) : Prop :=
  vp_in a1 16 ∧
  vp_in a1 16 ∧
  (post (upd p0_many a1.toNatClampNeg (0 : Int32)) (vp_updL p0_things a1.toNatClampNeg (0 : Int64)))
set_option maxHeartbeats 4000000 in
set_option maxRecDepth 100000 in
theorem c_X3_empty {l : Launch} {dC : Nat → ClassId} {dI : Nat → Nat → Nat} {sz : Nat} {cI cJ cZ : ClassId} {h_p0 : Nat} {ad_p0 : Nat → Nat} {p0_many : Nat → Int32} {p0_things : Nat → Int64} {a1 : Int32} {post : (Nat → Int32) → (Nat → Int64) → Prop} (hw : w_X3_empty p0_many p0_things a1 post) : Met l yX3_empty wsX3_empty ({ frames := 0, cells := 0, slots := 0, locals := 0 }) (va_Pc [.ref h_p0, .int a1] (xPre (dC, dI) cI cJ cZ (wld_X3_empty cI cJ cZ h_p0 ad_p0 p0_many p0_things) sz)) (q_X3_empty dC dI cI cJ cZ h_p0 ad_p0 p0_many p0_things post (va_A (wld_X3_empty cI cJ cZ h_p0 ad_p0 p0_many p0_things) sz)) 0 0 (va_A (wld_X3_empty cI cJ cZ h_p0 ad_p0 p0_many p0_things) sz) := by
  refine x_met (cc := cX3_empty) (maxL := 2) (ret := none) (own := RX3) (Qc := fun A => (q_X3_empty dC dI cI cJ cZ h_p0 ad_p0 p0_many p0_things post A)) (by decide) rfl rfl (Nat.le_of_ble_eq_true rfl) ?_
  intro p e s m args below meth c A ls E0 hP hD hS hl
  obtain ⟨hx, hb, hr, hml, hown, hts, hlocks, hK, hA, n1, n2⟩ := id E0
  have iX3 : ∀ w ∈ u_ws RX3 TX3 2, w ∈ wsX3_empty := fun w h => List.mem_cons_of_mem _ (List.mem_append_right _ h)
  have hS0 := hS
  have hl : lv_has ls 2 [(0, .ref h_p0), (1, .int a1)] := hl
  unfold w_X3_empty at hw
  obtain ⟨H, hH⟩ : ∃ H, H = s.heap := ⟨_, rfl⟩
  have hS : va_S A s.heap H [] := by rw [hH]; exact hS
  have hP : va_P (dC, dI) vwCl (wld_X3_empty cI cJ cZ h_p0 ad_p0 p0_many p0_things) H := by rw [hH]; exact hP
  suffices hG : W p l e ({ frames := 0, cells := 0, slots := 0, locals := 0 }) s m args below meth c H [] 0 0 (MQ below (q_X3_empty dC dI cI cJ cZ h_p0 ad_p0 p0_many p0_things post A) args s 0 0 A) (F0 m 0 ls []) by rw [hH] at hG; exact hG
  clear hH
  refine lv_aload_n hx hb dX3_empty_0 rfl (lv_at hl 0 rfl) ?_
  refine va_get (D := (dC, dI)) (ci := 3) (v := .ref (ad_p0 0)) (C := RX3) (T := TX3) (N := 2) hx hb hts iX3 hown hK hP 0 rfl rfl 0 (by decide) (hts (.fieldLink RX3 9 "NetHouse$Holding" "many" "[I") (by decide +kernel)) (fun _ h9 => h9) rfl dX3_empty_1 ?_
  refine lv_iload_n hx hb dX3_empty_4 rfl (lv_at hl 1 rfl) ?_
  refine lv_iconst (v := 0) hx hb dX3_empty_5 (by decide) ?_
  refine va_iast hx hb hK hP hD hS 1 0 rfl rfl hw.1 dX3_empty_6 (fun H locs hP hD hS => ?_)
  have hw := hw.2
  have hP : va_P (dC, dI) vwCl (wld_X3_empty cI cJ cZ h_p0 ad_p0 (upd p0_many a1.toNatClampNeg (0 : Int32)) p0_things) H := hP
  have hD : va_D A (wld_X3_empty cI cJ cZ h_p0 ad_p0 (upd p0_many a1.toNatClampNeg (0 : Int32)) p0_things) := hD
  refine lv_aload_n hx hb dX3_empty_7 rfl (lv_at hl 0 rfl) ?_
  refine va_get (D := (dC, dI)) (ci := 3) (v := .ref (ad_p0 1)) (C := RX3) (T := TX3) (N := 2) hx hb hts iX3 hown hK hP 0 rfl rfl 1 (by decide) (hts (.fieldLink RX3 15 "NetHouse$Holding" "things" "[J") (by decide +kernel)) (fun _ h9 => h9) rfl dX3_empty_8 ?_
  refine lv_iload_n hx hb dX3_empty_11 rfl (lv_at hl 1 rfl) ?_
  refine lv_lconst (v := 0) hx hb dX3_empty_12 (by decide) ?_
  refine va_last hx hb hK hP hD hS 2 1 rfl rfl hw.1 dX3_empty_13 (fun H locs hP hD hS => ?_)
  have hw := hw.2
  have hP : va_P (dC, dI) vwCl (wld_X3_empty cI cJ cZ h_p0 ad_p0 (upd p0_many a1.toNatClampNeg (0 : Int32)) (vp_updL p0_things a1.toNatClampNeg (0 : Int64))) H := hP
  have hD : va_D A (wld_X3_empty cI cJ cZ h_p0 ad_p0 (upd p0_many a1.toNatClampNeg (0 : Int32)) (vp_updL p0_things a1.toNatClampNeg (0 : Int64))) := hD
  exact x_vret (w1 := fun (u : (Nat → Int32) × (Nat → Int64)) => (wld_X3_empty cI cJ cZ h_p0 ad_p0 (u.1) (u.2))) hx hb hr hlocks ((upd p0_many a1.toNatClampNeg (0 : Int32)), (vp_updL p0_things a1.toNatClampNeg (0 : Int64))) hw hP hD hS dX3_empty_14
abbrev wld_X3_takeFirst (cI cJ cZ : ClassId) (h_p0 : Nat) (ad_p0 : Nat → Nat) (p0_many : Nat → Int32) (p0_things : Nat → Int64) : va_W := [(h_p0, .inr (3, [.ref (ad_p0 0), .ref (ad_p0 1)])), ((ad_p0 0), .inl (cI, 16, .inl p0_many)), ((ad_p0 1), .inl (cJ, 16, .inr (.inl p0_things)))]
abbrev q_X3_takeFirst (dC : Nat → ClassId) (dI : Nat → Nat → Nat) (cI cJ cZ : ClassId) (h_p0 : Nat) (ad_p0 : Nat → Nat) (p0_many : Nat → Int32) (p0_things : Nat → Int64) (post : (Nat → Int32) → (Nat → Int64) → Prop) (A : Nat → Prop) : Array Value → State → Outcome → State → Prop := va_Qv (fun (u : (Nat → Int32) × (Nat → Int64)) => post (u.1) (u.2)) (fun (u : (Nat → Int32) × (Nat → Int64)) t => xPost (dC, dI) A (wld_X3_takeFirst cI cJ cZ h_p0 ad_p0 (u.1) (u.2)) t) A
def w_X3_takeFirst_L27b (v1 : Int32) (v3 : Int32) (v4 : Int32) (v5 : Int64) (post : (Nat → Int32) → (Nat → Int64) → Prop) (K : (Int32) → (Int32) → (Nat → Int32) → (Nat → Int64) → Prop) (rec : (Int32) → (Int32) → (Nat → Int32) → (Nat → Int64) → Prop) (v7 : Int32) (v8 : Int32) (p0_many : Nat → Int32) (p0_things : Nat → Int64) : Prop :=
    (v4 ≤ v8 →
      K v7 v8 p0_many p0_things) ∧
    (¬ v4 ≤ v8 →
      w_X3_kindIn v5 v8 (fun r7 =>
      (v7 ≤ 0 →
        w_X3_append p0_many p0_things v1 r7 (fun y10 y11 =>
        ∀ x12 : Int32, x12 = v8 + (1 : Int32) →
        rec v7 x12 y10 y11)) ∧
      (¬ v7 ≤ 0 →
        w_X3_isOfKind r7 v3 (fun r13 =>
        (r13 = 0 →
          w_X3_append p0_many p0_things v1 r7 (fun y16 y17 =>
          ∀ x18 : Int32, x18 = v8 + (1 : Int32) →
          rec v7 x18 y16 y17)) ∧
        (¬ r13 = 0 →
          ∀ x19 : Int32, x19 = v7 + (-1 : Int32) →
          ∀ x20 : Int32, x20 = v8 + (1 : Int32) →
          rec x19 x20 p0_many p0_things)))))
def w_X3_takeFirst_L27 (v1 : Int32) (v3 : Int32) (v4 : Int32) (v5 : Int64) (post : (Nat → Int32) → (Nat → Int64) → Prop) (K : (Int32) → (Int32) → (Nat → Int32) → (Nat → Int64) → Prop) : Nat → (Int32) → (Int32) → (Nat → Int32) → (Nat → Int64) → Prop
  | 0, _, _, _, _ => False
  | n + 1, v7, v8, p0_many, p0_things => w_X3_takeFirst_L27b v1 v3 v4 v5 post K (w_X3_takeFirst_L27 v1 v3 v4 v5 post K n) v7 v8 p0_many p0_things
def w_X3_takeFirst (p0_many : Nat → Int32) (p0_things : Nat → Int64) (a1 : Int32) (a2 : Int32) (a3 : Int32) (post : (Nat → Int32) → (Nat → Int64) → Prop) : Prop :=
  vp_in a1 16 ∧
  ∀ x1 : Int32, x1 = (p0_many a1.toNatClampNeg) →
  vp_in a1 16 ∧
  ∀ x2 : Int64, x2 = (p0_things a1.toNatClampNeg) →
  w_X3_empty p0_many p0_things a1 (fun y3 y4 =>
  ∃ n : Nat, w_X3_takeFirst_L27 a1 a3 x1 x2 post (fun v22 v23 s24 s25 =>
      (post s24 s25)) n a2 (0 : Int32) y3 y4)
set_option maxHeartbeats 4000000 in
set_option maxRecDepth 100000 in
theorem c_X3_takeFirst_L27 {p : Program} {l : Launch} {e : Env} {s : State} {m : MethodId} {args : Array Value} {below : List Frame} {meth : Method} {c : Code} {dC : Nat → ClassId} {dI : Nat → Nat → Nat} {A : Nat → Prop} {cI cJ cZ : ClassId} {h_p0 : Nat} {ad_p0 : Nat → Nat} {v1 : Int32} {v3 : Int32} {v4 : Int32} {v5 : Int64} {z_p0_many : Nat → Int32} {z_p0_things : Nat → Int64} {post : (Nat → Int32) → (Nat → Int64) → Prop} {K : (Int32) → (Int32) → (Nat → Int32) → (Nat → Int64) → Prop} (E0 : xEnv p s m args meth c cX3_takeFirst none 10 RX3 wsX3_takeFirst (dC, dI) cI cJ cZ A) (hk : ∀ (v7 : Int32) (v8 : Int32) (p0_many : Nat → Int32) (p0_things : Nat → Int64) (H : Heap) (locs : List Loc) (ls : Array Slot), K v7 v8 p0_many p0_things → va_P (dC, dI) vwCl (wld_X3_takeFirst cI cJ cZ h_p0 ad_p0 p0_many p0_things) H → va_D A (wld_X3_takeFirst cI cJ cZ h_p0 ad_p0 p0_many p0_things) → va_S A s.heap H locs → lv_has ls 10 [] → W p l e ({ frames := 1, cells := 0, slots := 0, locals := 22 }) s m args below meth c H locs 0 0 (MQ below (q_X3_takeFirst dC dI cI cJ cZ h_p0 ad_p0 z_p0_many z_p0_things post A) args s 0 0 A) (F0 m 76 ls [])) : ∀ (n : Nat) (v7 : Int32) (v8 : Int32) (p0_many : Nat → Int32) (p0_things : Nat → Int64), w_X3_takeFirst_L27 v1 v3 v4 v5 post K n v7 v8 p0_many p0_things → ∀ (H : Heap) (locs : List Loc) (ls : Array Slot), va_P (dC, dI) vwCl (wld_X3_takeFirst cI cJ cZ h_p0 ad_p0 p0_many p0_things) H → va_D A (wld_X3_takeFirst cI cJ cZ h_p0 ad_p0 p0_many p0_things) → va_S A s.heap H locs → lv_has ls 10 [(0, .ref h_p0), (1, .int v1), (3, .int v3), (4, .int v4), (5, .long v5), (7, .int v7), (8, .int v8)] → W p l e ({ frames := 1, cells := 0, slots := 0, locals := 22 }) s m args below meth c H locs 0 0 (MQ below (q_X3_takeFirst dC dI cI cJ cZ h_p0 ad_p0 z_p0_many z_p0_things post A) args s 0 0 A) (F0 m 27 ls []) := by
  obtain ⟨hx, hb, hr, hml, hown, hts, hlocks, hK, hA, n1, n2⟩ := id E0
  have iX3 : ∀ w ∈ u_ws RX3 TX3 2, w ∈ wsX3_takeFirst := fun w h => List.mem_cons_of_mem _ (List.mem_append_right _ h)
  intro n
  induction n with
  | zero => intro v7 v8 p0_many p0_things hw; exact hw.elim
  | succ n ih =>
    intro v7 v8 p0_many p0_things hw H locs ls hP hD hS hl
    have hw : w_X3_takeFirst_L27b v1 v3 v4 v5 post K (w_X3_takeFirst_L27 v1 v3 v4 v5 post K n) v7 v8 p0_many p0_things := hw
    unfold w_X3_takeFirst_L27b at hw
    refine lv_iload hx hb dX3_takeFirst_27 (lv_at hl 6 rfl) ?_
    refine lv_iload hx hb dX3_takeFirst_29 (lv_at hl 3 rfl) ?_
    refine lv_icmp_ge (tgt := 76) hx hb dX3_takeFirst_31 (by decide) (fun c5 => ?_) (fun c6 => ?_)
    · have hw := hw.1 c5
      exact hk _ _ _ _ _ _ _ hw hP hD hS (lv_sub hl [] rfl)
    · have hw := hw.2 c6
      refine lv_lload hx hb dX3_takeFirst_34 (lv_at hl 4 rfl) ?_
      refine lv_iload hx hb dX3_takeFirst_36 (lv_at hl 6 rfl) ?_
      obtain ⟨hPc, hDc⟩ := x_sub (wc := (wld_X3_kindIn cI cJ cZ )) hP hD [] (n := 3) rfl rfl (by decide +kernel)
      refine x_calli (ws' := fun (u : Unit) => (wld_X3_takeFirst cI cJ cZ h_p0 ad_p0 p0_many p0_things)) hP hD hS hA [] [0, 1, 2] [0, 1, 2] (n := 3) (k := 0) rfl (fun _ => rfl) rfl (by decide +kernel) (fun _ => rfl) (va_runS (As := [.long v5, .int v8]) (rest := []) ⟨hx, hb, hml, hown, hts⟩ (c_X3_kindIn (l := l) (dC := dC) (dI := dI) (cI := cI) (cJ := cJ) (cZ := cZ) (sz := H.size) hw) (va_cwS 2 hts gX3_takeFirst_X3_kindIn rfl rfl rfl (by decide +kernel) ⟨Nat.le_of_ble_eq_true rfl, Nat.le_of_ble_eq_true rfl⟩) ⟨xPre_blind, xPre_at hK hPc hDc n1 n2⟩ rfl rfl hl.1 rfl (lv_room (Nat.le_of_ble_eq_true rfl)) dX3_takeFirst_38 ⟨Nat.zero_le _, Nat.zero_le _⟩) (fun r7 u H locs hw hP hD hS => ?_)
      try dsimp only at hw
      have hP : va_P (dC, dI) vwCl (wld_X3_takeFirst cI cJ cZ h_p0 ad_p0 p0_many p0_things) H := hP
      have hD : va_D A (wld_X3_takeFirst cI cJ cZ h_p0 ad_p0 p0_many p0_things) := hD
      refine lv_istore (lv' := [(9, .int r7), (0, .ref h_p0), (1, .int v1), (3, .int v3), (4, .int v4), (5, .long v5), (7, .int v7), (8, .int v8)]) hx hb dX3_takeFirst_41 hl (by decide) rfl (fun ls hl => ?_)
      refine lv_iload hx hb dX3_takeFirst_43 (lv_at hl 6 rfl) ?_
      refine lv_if_le (tgt := 63) hx hb dX3_takeFirst_45 (by decide) (fun c8 => ?_) (fun c9 => ?_)
      · have hw := hw.1 c8
        refine lv_aload_n hx hb dX3_takeFirst_63 rfl (lv_at hl 1 rfl) ?_
        refine lv_iload_n hx hb dX3_takeFirst_64 rfl (lv_at hl 2 rfl) ?_
        refine lv_iload hx hb dX3_takeFirst_65 (lv_at hl 0 rfl) ?_
        obtain ⟨hPc, hDc⟩ := x_sub (wc := (wld_X3_append cI cJ cZ h_p0 ad_p0 p0_many p0_things)) hP hD [0, 1, 2] (n := 3) rfl rfl (by decide +kernel)
        refine x_callv (ws' := fun (u : (Nat → Int32) × (Nat → Int64)) => (wld_X3_takeFirst cI cJ cZ h_p0 ad_p0 (u.1) (u.2))) hP hD hS hA [0, 1, 2] [] [0, 1, 2] (n := 3) (k := 3) rfl (fun _ => rfl) rfl (by decide +kernel) (fun _ => rfl) (va_runV (As := [.int v1, .int r7]) (rest := []) ⟨hx, hb, hml, hown, hts⟩ (c_X3_append (l := l) (dC := dC) (dI := dI) (cI := cI) (cJ := cJ) (cZ := cZ) (sz := H.size) (h_p0 := h_p0) (ad_p0 := ad_p0) (p0_many := p0_many) (p0_things := p0_things) hw) (cwV 2 hts gX3_takeFirst_X3_append rfl rfl rfl (by decide +kernel) ⟨Nat.le_of_ble_eq_true rfl, Nat.le_of_ble_eq_true rfl⟩) ⟨xPre_blind, va_recv hK hP (ci := 3) (q0 := 0) rfl rfl, xPre_at hK hPc hDc n1 n2⟩ rfl rfl hl.1 rfl (lv_room (Nat.le_of_ble_eq_true rfl)) dX3_takeFirst_67 ⟨Nat.zero_le _, Nat.zero_le _⟩) (fun u H locs hw hP hD hS => ?_)
        obtain ⟨y10, y11⟩ := u
        try dsimp only at hw
        have hP : va_P (dC, dI) vwCl (wld_X3_takeFirst cI cJ cZ h_p0 ad_p0 y10 y11) H := hP
        have hD : va_D A (wld_X3_takeFirst cI cJ cZ h_p0 ad_p0 y10 y11) := hD
        obtain ⟨x12, ex12⟩ : ∃ y : Int32, y = v8 + (1 : Int32) := ⟨_, rfl⟩
        have hw := hw x12 ex12
        refine lv_iinc (v := x12) (lv' := [(8, .int x12), (9, .int r7), (0, .ref h_p0), (1, .int v1), (3, .int v3), (4, .int v4), (5, .long v5), (7, .int v7)]) hx hb dX3_takeFirst_70 hl (k := 7) rfl (by rw [ex12]; rfl) (by decide) rfl (fun ls hl => ?_)
        refine lv_goto (tgt := 27) hx hb dX3_takeFirst_73 (by decide) ?_
        exact ih _ _ _ _ hw _ _ _ hP hD hS (lv_sub hl [2, 3, 4, 5, 6, 7, 0] rfl)
      · have hw := hw.2 c9
        refine lv_iload hx hb dX3_takeFirst_48 (lv_at hl 0 rfl) ?_
        refine lv_iload_n hx hb dX3_takeFirst_50 rfl (lv_at hl 3 rfl) ?_
        obtain ⟨hPc, hDc⟩ := x_sub (wc := (wld_X3_isOfKind cI cJ cZ )) hP hD [] (n := 3) rfl rfl (by decide +kernel)
        refine x_calli (ws' := fun (u : Unit) => (wld_X3_takeFirst cI cJ cZ h_p0 ad_p0 p0_many p0_things)) hP hD hS hA [] [0, 1, 2] [0, 1, 2] (n := 3) (k := 0) rfl (fun _ => rfl) rfl (by decide +kernel) (fun _ => rfl) (va_runS (As := [.int r7, .int v3]) (rest := []) ⟨hx, hb, hml, hown, hts⟩ (c_X3_isOfKind (l := l) (dC := dC) (dI := dI) (cI := cI) (cJ := cJ) (cZ := cZ) (sz := H.size) hw) (va_cwS 2 hts gX3_takeFirst_X3_isOfKind rfl rfl rfl (by decide +kernel) ⟨Nat.le_of_ble_eq_true rfl, Nat.le_of_ble_eq_true rfl⟩) ⟨xPre_blind, xPre_at hK hPc hDc n1 n2⟩ rfl rfl hl.1 rfl (lv_room (Nat.le_of_ble_eq_true rfl)) dX3_takeFirst_51 ⟨Nat.zero_le _, Nat.zero_le _⟩) (fun r13 u H locs hw hP hD hS => ?_)
        try dsimp only at hw
        have hP : va_P (dC, dI) vwCl (wld_X3_takeFirst cI cJ cZ h_p0 ad_p0 p0_many p0_things) H := hP
        have hD : va_D A (wld_X3_takeFirst cI cJ cZ h_p0 ad_p0 p0_many p0_things) := hD
        refine lv_if_eq (tgt := 63) hx hb dX3_takeFirst_54 (by decide) (fun c14 => ?_) (fun c15 => ?_)
        · have hw := hw.1 c14
          refine lv_aload_n hx hb dX3_takeFirst_63 rfl (lv_at hl 1 rfl) ?_
          refine lv_iload_n hx hb dX3_takeFirst_64 rfl (lv_at hl 2 rfl) ?_
          refine lv_iload hx hb dX3_takeFirst_65 (lv_at hl 0 rfl) ?_
          obtain ⟨hPc, hDc⟩ := x_sub (wc := (wld_X3_append cI cJ cZ h_p0 ad_p0 p0_many p0_things)) hP hD [0, 1, 2] (n := 3) rfl rfl (by decide +kernel)
          refine x_callv (ws' := fun (u : (Nat → Int32) × (Nat → Int64)) => (wld_X3_takeFirst cI cJ cZ h_p0 ad_p0 (u.1) (u.2))) hP hD hS hA [0, 1, 2] [] [0, 1, 2] (n := 3) (k := 3) rfl (fun _ => rfl) rfl (by decide +kernel) (fun _ => rfl) (va_runV (As := [.int v1, .int r7]) (rest := []) ⟨hx, hb, hml, hown, hts⟩ (c_X3_append (l := l) (dC := dC) (dI := dI) (cI := cI) (cJ := cJ) (cZ := cZ) (sz := H.size) (h_p0 := h_p0) (ad_p0 := ad_p0) (p0_many := p0_many) (p0_things := p0_things) hw) (cwV 2 hts gX3_takeFirst_X3_append rfl rfl rfl (by decide +kernel) ⟨Nat.le_of_ble_eq_true rfl, Nat.le_of_ble_eq_true rfl⟩) ⟨xPre_blind, va_recv hK hP (ci := 3) (q0 := 0) rfl rfl, xPre_at hK hPc hDc n1 n2⟩ rfl rfl hl.1 rfl (lv_room (Nat.le_of_ble_eq_true rfl)) dX3_takeFirst_67 ⟨Nat.zero_le _, Nat.zero_le _⟩) (fun u H locs hw hP hD hS => ?_)
          obtain ⟨y16, y17⟩ := u
          try dsimp only at hw
          have hP : va_P (dC, dI) vwCl (wld_X3_takeFirst cI cJ cZ h_p0 ad_p0 y16 y17) H := hP
          have hD : va_D A (wld_X3_takeFirst cI cJ cZ h_p0 ad_p0 y16 y17) := hD
          obtain ⟨x18, ex18⟩ : ∃ y : Int32, y = v8 + (1 : Int32) := ⟨_, rfl⟩
          have hw := hw x18 ex18
          refine lv_iinc (v := x18) (lv' := [(8, .int x18), (9, .int r7), (0, .ref h_p0), (1, .int v1), (3, .int v3), (4, .int v4), (5, .long v5), (7, .int v7)]) hx hb dX3_takeFirst_70 hl (k := 7) rfl (by rw [ex18]; rfl) (by decide) rfl (fun ls hl => ?_)
          refine lv_goto (tgt := 27) hx hb dX3_takeFirst_73 (by decide) ?_
          exact ih _ _ _ _ hw _ _ _ hP hD hS (lv_sub hl [2, 3, 4, 5, 6, 7, 0] rfl)
        · have hw := hw.2 c15
          obtain ⟨x19, ex19⟩ : ∃ y : Int32, y = v7 + (-1 : Int32) := ⟨_, rfl⟩
          have hw := hw x19 ex19
          refine lv_iinc (v := x19) (lv' := [(7, .int x19), (9, .int r7), (0, .ref h_p0), (1, .int v1), (3, .int v3), (4, .int v4), (5, .long v5), (8, .int v8)]) hx hb dX3_takeFirst_57 hl (k := 6) rfl (by rw [ex19]; rfl) (by decide) rfl (fun ls hl => ?_)
          refine lv_goto (tgt := 70) hx hb dX3_takeFirst_60 (by decide) ?_
          obtain ⟨x20, ex20⟩ : ∃ y : Int32, y = v8 + (1 : Int32) := ⟨_, rfl⟩
          have hw := hw x20 ex20
          refine lv_iinc (v := x20) (lv' := [(8, .int x20), (7, .int x19), (9, .int r7), (0, .ref h_p0), (1, .int v1), (3, .int v3), (4, .int v4), (5, .long v5)]) hx hb dX3_takeFirst_70 hl (k := 7) rfl (by rw [ex20]; rfl) (by decide) rfl (fun ls hl => ?_)
          refine lv_goto (tgt := 27) hx hb dX3_takeFirst_73 (by decide) ?_
          exact ih _ _ _ _ hw _ _ _ hP hD hS (lv_sub hl [3, 4, 5, 6, 7, 1, 0] rfl)
set_option maxHeartbeats 4000000 in
set_option maxRecDepth 100000 in
theorem c_X3_takeFirst {l : Launch} {dC : Nat → ClassId} {dI : Nat → Nat → Nat} {sz : Nat} {cI cJ cZ : ClassId} {h_p0 : Nat} {ad_p0 : Nat → Nat} {p0_many : Nat → Int32} {p0_things : Nat → Int64} {a1 : Int32} {a2 : Int32} {a3 : Int32} {post : (Nat → Int32) → (Nat → Int64) → Prop} (hw : w_X3_takeFirst p0_many p0_things a1 a2 a3 post) : Met l yX3_takeFirst wsX3_takeFirst ({ frames := 1, cells := 0, slots := 0, locals := 22 }) (va_Pc [.ref h_p0, .int a1, .int a2, .int a3] (xPre (dC, dI) cI cJ cZ (wld_X3_takeFirst cI cJ cZ h_p0 ad_p0 p0_many p0_things) sz)) (q_X3_takeFirst dC dI cI cJ cZ h_p0 ad_p0 p0_many p0_things post (va_A (wld_X3_takeFirst cI cJ cZ h_p0 ad_p0 p0_many p0_things) sz)) 0 0 (va_A (wld_X3_takeFirst cI cJ cZ h_p0 ad_p0 p0_many p0_things) sz) := by
  refine x_met (cc := cX3_takeFirst) (maxL := 10) (ret := none) (own := RX3) (Qc := fun A => (q_X3_takeFirst dC dI cI cJ cZ h_p0 ad_p0 p0_many p0_things post A)) (by decide) rfl rfl (Nat.le_of_ble_eq_true rfl) ?_
  intro p e s m args below meth c A ls E0 hP hD hS hl
  obtain ⟨hx, hb, hr, hml, hown, hts, hlocks, hK, hA, n1, n2⟩ := id E0
  have iX3 : ∀ w ∈ u_ws RX3 TX3 2, w ∈ wsX3_takeFirst := fun w h => List.mem_cons_of_mem _ (List.mem_append_right _ h)
  have hS0 := hS
  have hl : lv_has ls 10 [(0, .ref h_p0), (1, .int a1), (2, .int a2), (3, .int a3)] := hl
  unfold w_X3_takeFirst at hw
  obtain ⟨H, hH⟩ : ∃ H, H = s.heap := ⟨_, rfl⟩
  have hS : va_S A s.heap H [] := by rw [hH]; exact hS
  have hP : va_P (dC, dI) vwCl (wld_X3_takeFirst cI cJ cZ h_p0 ad_p0 p0_many p0_things) H := by rw [hH]; exact hP
  suffices hG : W p l e ({ frames := 1, cells := 0, slots := 0, locals := 22 }) s m args below meth c H [] 0 0 (MQ below (q_X3_takeFirst dC dI cI cJ cZ h_p0 ad_p0 p0_many p0_things post A) args s 0 0 A) (F0 m 0 ls []) by rw [hH] at hG; exact hG
  clear hH
  refine lv_aload_n hx hb dX3_takeFirst_0 rfl (lv_at hl 0 rfl) ?_
  refine va_get (D := (dC, dI)) (ci := 3) (v := .ref (ad_p0 0)) (C := RX3) (T := TX3) (N := 2) hx hb hts iX3 hown hK hP 0 rfl rfl 0 (by decide) (hts (.fieldLink RX3 9 "NetHouse$Holding" "many" "[I") (by decide +kernel)) (fun _ h9 => h9) rfl dX3_takeFirst_1 ?_
  refine lv_iload_n hx hb dX3_takeFirst_4 rfl (lv_at hl 1 rfl) ?_
  refine va_iald hx hb hK hP 1 0 rfl rfl hw.1 dX3_takeFirst_5 ?_
  have hw := hw.2
  refine lv_topi (fun x1 ex1 => ?_)
  have hw := hw x1 ex1
  refine lv_istore (lv' := [(4, .int x1), (0, .ref h_p0), (1, .int a1), (2, .int a2), (3, .int a3)]) hx hb dX3_takeFirst_6 hl (by decide) rfl (fun ls hl => ?_)
  refine lv_aload_n hx hb dX3_takeFirst_8 rfl (lv_at hl 1 rfl) ?_
  refine va_get (D := (dC, dI)) (ci := 3) (v := .ref (ad_p0 1)) (C := RX3) (T := TX3) (N := 2) hx hb hts iX3 hown hK hP 0 rfl rfl 1 (by decide) (hts (.fieldLink RX3 15 "NetHouse$Holding" "things" "[J") (by decide +kernel)) (fun _ h9 => h9) rfl dX3_takeFirst_9 ?_
  refine lv_iload_n hx hb dX3_takeFirst_12 rfl (lv_at hl 2 rfl) ?_
  refine va_lald hx hb hK hP 2 1 rfl rfl hw.1 dX3_takeFirst_13 ?_
  have hw := hw.2
  refine lv_topl (fun x2 ex2 => ?_)
  have hw := hw x2 ex2
  refine lv_lstore (lv' := [(5, .long x2), (4, .int x1), (0, .ref h_p0), (1, .int a1), (2, .int a2), (3, .int a3)]) hx hb dX3_takeFirst_14 hl (by decide) rfl (fun ls hl => ?_)
  refine lv_iload_n hx hb dX3_takeFirst_16 rfl (lv_at hl 4 rfl) ?_
  refine lv_istore (lv' := [(7, .int a2), (5, .long x2), (4, .int x1), (0, .ref h_p0), (1, .int a1), (2, .int a2), (3, .int a3)]) hx hb dX3_takeFirst_17 hl (by decide) rfl (fun ls hl => ?_)
  refine lv_aload_n hx hb dX3_takeFirst_19 rfl (lv_at hl 3 rfl) ?_
  refine lv_iload_n hx hb dX3_takeFirst_20 rfl (lv_at hl 4 rfl) ?_
  obtain ⟨hPc, hDc⟩ := x_sub (wc := (wld_X3_empty cI cJ cZ h_p0 ad_p0 p0_many p0_things)) hP hD [0, 1, 2] (n := 3) rfl rfl (by decide +kernel)
  refine x_callv (ws' := fun (u : (Nat → Int32) × (Nat → Int64)) => (wld_X3_takeFirst cI cJ cZ h_p0 ad_p0 (u.1) (u.2))) hP hD hS hA [0, 1, 2] [] [0, 1, 2] (n := 3) (k := 3) rfl (fun _ => rfl) rfl (by decide +kernel) (fun _ => rfl) (va_runV (As := [.int a1]) (rest := []) ⟨hx, hb, hml, hown, hts⟩ (c_X3_empty (l := l) (dC := dC) (dI := dI) (cI := cI) (cJ := cJ) (cZ := cZ) (sz := H.size) (h_p0 := h_p0) (ad_p0 := ad_p0) (p0_many := p0_many) (p0_things := p0_things) hw) (cwV 1 hts gX3_takeFirst_X3_empty rfl rfl rfl (by decide +kernel) ⟨Nat.le_of_ble_eq_true rfl, Nat.le_of_ble_eq_true rfl⟩) ⟨xPre_blind, va_recv hK hP (ci := 3) (q0 := 0) rfl rfl, xPre_at hK hPc hDc n1 n2⟩ rfl rfl hl.1 rfl (lv_room (Nat.le_of_ble_eq_true rfl)) dX3_takeFirst_21 ⟨Nat.zero_le _, Nat.zero_le _⟩) (fun u H locs hw hP hD hS => ?_)
  obtain ⟨y3, y4⟩ := u
  try dsimp only at hw
  have hP : va_P (dC, dI) vwCl (wld_X3_takeFirst cI cJ cZ h_p0 ad_p0 y3 y4) H := hP
  have hD : va_D A (wld_X3_takeFirst cI cJ cZ h_p0 ad_p0 y3 y4) := hD
  refine lv_iconst (v := 0) hx hb dX3_takeFirst_24 (by decide) ?_
  refine lv_istore (lv' := [(8, .int (0 : Int32)), (7, .int a2), (5, .long x2), (4, .int x1), (0, .ref h_p0), (1, .int a1), (2, .int a2), (3, .int a3)]) hx hb dX3_takeFirst_25 hl (by decide) rfl (fun ls hl => ?_)
  obtain ⟨n21, hw⟩ := hw
  refine c_X3_takeFirst_L27 (l := l) (z_p0_many := y3) (z_p0_things := y4) E0 ?_ n21 _ _ _ _ hw _ _ _ hP hD hS (lv_sub hl [4, 5, 7, 3, 2, 1, 0] rfl)
  · intro v22 v23 s24 s25 H locs ls hw hP hD hS hl
    have hP : va_P (dC, dI) vwCl (wld_X3_takeFirst cI cJ cZ h_p0 ad_p0 s24 s25) H := hP
    have hD : va_D A (wld_X3_takeFirst cI cJ cZ h_p0 ad_p0 s24 s25) := hD
    exact x_vret (w1 := fun (u : (Nat → Int32) × (Nat → Int64)) => (wld_X3_takeFirst cI cJ cZ h_p0 ad_p0 (u.1) (u.2))) hx hb hr hlocks (s24, s25) hw hP hD hS dX3_takeFirst_76
abbrev wld_X5_moveAt (cI cJ cZ : ClassId) (h_p0 : Nat) (h_p1 : Nat) (ad_p0 : Nat → Nat) (ad_p1 : Nat → Nat) (p0_places : Int32) (p0_steps : Int32) (p0_coloured : Int32) (p0_gifts : Nat → Int32) (p0_placeKinds : Nat → Int32) (p0_puts : Nat → Int32) (p0_takes : Nat → Int32) (p0_wants : Nat → Int32) (p1_many : Nat → Int32) (p1_things : Nat → Int64) : va_W := [(h_p0, .inr (5, [.ref (ad_p0 0), .ref (ad_p0 1), .ref (ad_p0 2), .ref (ad_p0 3), .ref (ad_p0 4), .ref (ad_p0 5), .ref (ad_p0 6), .ref (ad_p0 7), .ref (ad_p0 8), .ref (ad_p0 9), .ref (ad_p0 10), .int p0_places, .int p0_steps, .int p0_coloured])), ((ad_p0 7), .inl (cI, 256, .inl p0_gifts)), ((ad_p0 0), .inl (cI, 16, .inl p0_placeKinds)), ((ad_p0 3), .inl (cI, 256, .inl p0_puts)), ((ad_p0 2), .inl (cI, 256, .inl p0_takes)), ((ad_p0 6), .inl (cI, 256, .inl p0_wants)), (h_p1, .inr (3, [.ref (ad_p1 0), .ref (ad_p1 1)])), ((ad_p1 0), .inl (cI, 16, .inl p1_many)), ((ad_p1 1), .inl (cJ, 16, .inr (.inl p1_things)))]
abbrev q_X5_moveAt (dC : Nat → ClassId) (dI : Nat → Nat → Nat) (cI cJ cZ : ClassId) (h_p0 : Nat) (h_p1 : Nat) (ad_p0 : Nat → Nat) (ad_p1 : Nat → Nat) (p0_places : Int32) (p0_steps : Int32) (p0_coloured : Int32) (p0_gifts : Nat → Int32) (p0_placeKinds : Nat → Int32) (p0_puts : Nat → Int32) (p0_takes : Nat → Int32) (p0_wants : Nat → Int32) (p1_many : Nat → Int32) (p1_things : Nat → Int64) (post : (Nat → Int32) → (Nat → Int64) → Prop) (A : Nat → Prop) : Array Value → State → Outcome → State → Prop := va_Qv (fun (u : (Nat → Int32) × (Nat → Int64)) => post (u.1) (u.2)) (fun (u : (Nat → Int32) × (Nat → Int64)) t => xPost (dC, dI) A (wld_X5_moveAt cI cJ cZ h_p0 h_p1 ad_p0 ad_p1 p0_places p0_steps p0_coloured p0_gifts p0_placeKinds p0_puts p0_takes p0_wants (u.1) (u.2)) t) A
def w_X5_moveAt (p0_gifts : Nat → Int32) (p0_placeKinds : Nat → Int32) (p0_puts : Nat → Int32) (p0_takes : Nat → Int32) (p0_wants : Nat → Int32) (p1_many : Nat → Int32) (p1_things : Nat → Int64) (a2 : Int32) (a3 : Int32) (post : (Nat → Int32) → (Nat → Int64) → Prop) : Prop :=
  w_X5_isColoured p0_placeKinds a2 (fun r1 =>
  (r1 = 0 →
    vp_in a2 16 ∧
    ((p1_many a2.toNatClampNeg) = (2147483647 : Int32) →
      (post p1_many p1_things)) ∧
    (¬ (p1_many a2.toNatClampNeg) = (2147483647 : Int32) →
      vp_in a2 16 ∧
      vp_in a3 256 ∧
      vp_in a3 256 ∧
      vp_in a2 16 ∧
      (post (upd p1_many a2.toNatClampNeg ((p1_many a2.toNatClampNeg) + ((p0_puts a3.toNatClampNeg) - (p0_takes a3.toNatClampNeg)))) p1_things))) ∧
  (¬ r1 = 0 →
    vp_in a3 256 ∧
    vp_in a3 256 ∧
    w_X3_takeFirst p1_many p1_things a2 (p0_takes a3.toNatClampNeg) (p0_wants a3.toNatClampNeg) (fun y6 y7 =>
    vp_in a3 256 ∧
    vp_in a3 256 ∧
    w_X3_appendMany y6 y7 a2 (p0_puts a3.toNatClampNeg) (p0_gifts a3.toNatClampNeg) (fun y8 y9 =>
    (post y8 y9)))))
set_option maxHeartbeats 4000000 in
set_option maxRecDepth 100000 in
theorem c_X5_moveAt {l : Launch} {dC : Nat → ClassId} {dI : Nat → Nat → Nat} {sz : Nat} {cI cJ cZ : ClassId} {h_p0 : Nat} {h_p1 : Nat} {ad_p0 : Nat → Nat} {ad_p1 : Nat → Nat} {p0_places : Int32} {p0_steps : Int32} {p0_coloured : Int32} {p0_gifts : Nat → Int32} {p0_placeKinds : Nat → Int32} {p0_puts : Nat → Int32} {p0_takes : Nat → Int32} {p0_wants : Nat → Int32} {p1_many : Nat → Int32} {p1_things : Nat → Int64} {a2 : Int32} {a3 : Int32} {post : (Nat → Int32) → (Nat → Int64) → Prop} (hw : w_X5_moveAt p0_gifts p0_placeKinds p0_puts p0_takes p0_wants p1_many p1_things a2 a3 post) : Met l yX5_moveAt wsX5_moveAt ({ frames := 2, cells := 0, slots := 0, locals := 51 }) (va_Pc [.ref h_p0, .ref h_p1, .int a2, .int a3] (xPre (dC, dI) cI cJ cZ (wld_X5_moveAt cI cJ cZ h_p0 h_p1 ad_p0 ad_p1 p0_places p0_steps p0_coloured p0_gifts p0_placeKinds p0_puts p0_takes p0_wants p1_many p1_things) sz)) (q_X5_moveAt dC dI cI cJ cZ h_p0 h_p1 ad_p0 ad_p1 p0_places p0_steps p0_coloured p0_gifts p0_placeKinds p0_puts p0_takes p0_wants p1_many p1_things post (va_A (wld_X5_moveAt cI cJ cZ h_p0 h_p1 ad_p0 ad_p1 p0_places p0_steps p0_coloured p0_gifts p0_placeKinds p0_puts p0_takes p0_wants p1_many p1_things) sz)) 0 0 (va_A (wld_X5_moveAt cI cJ cZ h_p0 h_p1 ad_p0 ad_p1 p0_places p0_steps p0_coloured p0_gifts p0_placeKinds p0_puts p0_takes p0_wants p1_many p1_things) sz) := by
  refine x_met (cc := cX5_moveAt) (maxL := 4) (ret := none) (own := RX5) (Qc := fun A => (q_X5_moveAt dC dI cI cJ cZ h_p0 h_p1 ad_p0 ad_p1 p0_places p0_steps p0_coloured p0_gifts p0_placeKinds p0_puts p0_takes p0_wants p1_many p1_things post A)) (by decide) rfl rfl (Nat.le_of_ble_eq_true rfl) ?_
  intro p e s m args below meth c A ls E0 hP hD hS hl
  obtain ⟨hx, hb, hr, hml, hown, hts, hlocks, hK, hA, n1, n2⟩ := id E0
  have iX3 : ∀ w ∈ u_ws RX3 TX3 2, w ∈ wsX5_moveAt := fun w h => List.mem_cons_of_mem _ (List.mem_append_right _ h)
  have iX5 : ∀ w ∈ u_ws RX5 TX5 14, w ∈ wsX5_moveAt := fun w h => List.mem_cons_of_mem _ (List.mem_append_left _ (List.mem_append_right _ h))
  have hS0 := hS
  have hl : lv_has ls 4 [(0, .ref h_p0), (1, .ref h_p1), (2, .int a2), (3, .int a3)] := hl
  unfold w_X5_moveAt at hw
  obtain ⟨H, hH⟩ : ∃ H, H = s.heap := ⟨_, rfl⟩
  have hS : va_S A s.heap H [] := by rw [hH]; exact hS
  have hP : va_P (dC, dI) vwCl (wld_X5_moveAt cI cJ cZ h_p0 h_p1 ad_p0 ad_p1 p0_places p0_steps p0_coloured p0_gifts p0_placeKinds p0_puts p0_takes p0_wants p1_many p1_things) H := by rw [hH]; exact hP
  suffices hG : W p l e ({ frames := 2, cells := 0, slots := 0, locals := 51 }) s m args below meth c H [] 0 0 (MQ below (q_X5_moveAt dC dI cI cJ cZ h_p0 h_p1 ad_p0 ad_p1 p0_places p0_steps p0_coloured p0_gifts p0_placeKinds p0_puts p0_takes p0_wants p1_many p1_things post A) args s 0 0 A) (F0 m 0 ls []) by rw [hH] at hG; exact hG
  clear hH
  refine lv_aload_n hx hb dX5_moveAt_0 rfl (lv_at hl 0 rfl) ?_
  refine lv_iload_n hx hb dX5_moveAt_1 rfl (lv_at hl 2 rfl) ?_
  obtain ⟨hPc, hDc⟩ := x_sub (wc := (wld_X5_isColoured cI cJ cZ h_p0 ad_p0 p0_places p0_steps p0_coloured p0_placeKinds)) hP hD [0, 2] (n := 9) rfl rfl (by decide +kernel)
  refine x_calli (ws' := fun (u : Unit) => (wld_X5_moveAt cI cJ cZ h_p0 h_p1 ad_p0 ad_p1 p0_places p0_steps p0_coloured p0_gifts p0_placeKinds p0_puts p0_takes p0_wants p1_many p1_things)) hP hD hS hA [0, 2] [1, 3, 4, 5, 6, 7, 8] [7, 0, 8, 1, 2, 3, 4, 5, 6] (n := 9) (k := 2) rfl (fun _ => rfl) rfl (by decide +kernel) (fun _ => rfl) (va_runV (As := [.int a2]) (rest := []) ⟨hx, hb, hml, hown, hts⟩ (c_X5_isColoured (l := l) (dC := dC) (dI := dI) (cI := cI) (cJ := cJ) (cZ := cZ) (sz := H.size) (h_p0 := h_p0) (ad_p0 := ad_p0) (p0_places := p0_places) (p0_steps := p0_steps) (p0_coloured := p0_coloured) (p0_placeKinds := p0_placeKinds) hw) (cwV 1 hts gX5_moveAt_X5_isColoured rfl rfl rfl (by decide +kernel) ⟨Nat.le_of_ble_eq_true rfl, Nat.le_of_ble_eq_true rfl⟩) ⟨xPre_blind, va_recv hK hP (ci := 5) (q0 := 0) rfl rfl, xPre_at hK hPc hDc n1 n2⟩ rfl rfl hl.1 rfl (lv_room (Nat.le_of_ble_eq_true rfl)) dX5_moveAt_2 ⟨Nat.zero_le _, Nat.zero_le _⟩) (fun r1 u H locs hw hP hD hS => ?_)
  try dsimp only at hw
  have hP : va_P (dC, dI) vwCl (wld_X5_moveAt cI cJ cZ h_p0 h_p1 ad_p0 ad_p1 p0_places p0_steps p0_coloured p0_gifts p0_placeKinds p0_puts p0_takes p0_wants p1_many p1_things) H := hP
  have hD : va_D A (wld_X5_moveAt cI cJ cZ h_p0 h_p1 ad_p0 ad_p1 p0_places p0_steps p0_coloured p0_gifts p0_placeKinds p0_puts p0_takes p0_wants p1_many p1_things) := hD
  refine lv_if_eq (tgt := 45) hx hb dX5_moveAt_5 (by decide) (fun c2 => ?_) (fun c3 => ?_)
  · have hw := hw.1 c2
    refine lv_aload_n hx hb dX5_moveAt_45 rfl (lv_at hl 1 rfl) ?_
    refine va_get (D := (dC, dI)) (ci := 3) (v := .ref (ad_p1 0)) (C := RX3) (T := TX3) (N := 2) hx hb hts iX3 hown hK hP 6 rfl rfl 0 (by decide) (hts (.fieldLink RX5 74 "NetHouse$Holding" "many" "[I") (by decide +kernel)) (fun _ h9 => h9) rfl dX5_moveAt_46 ?_
    refine lv_iload_n hx hb dX5_moveAt_49 rfl (lv_at hl 2 rfl) ?_
    refine va_iald hx hb hK hP 7 0 rfl rfl hw.1 dX5_moveAt_50 ?_
    have hw := hw.2
    refine lv_ldc (v := 2147483647) hx hb hown (hts (.constant RX5 112 (2147483647)) (by decide +kernel)) dX5_moveAt_51 ?_
    refine lv_icmp_eq (tgt := 78) hx hb dX5_moveAt_53 (by decide) (fun c4 => ?_) (fun c5 => ?_)
    · have hw := hw.1 c4
      exact x_vret (w1 := fun (u : (Nat → Int32) × (Nat → Int64)) => (wld_X5_moveAt cI cJ cZ h_p0 h_p1 ad_p0 ad_p1 p0_places p0_steps p0_coloured p0_gifts p0_placeKinds p0_puts p0_takes p0_wants (u.1) (u.2))) hx hb hr hlocks (p1_many, p1_things) hw hP hD hS dX5_moveAt_78
    · have hw := hw.2 c5
      refine lv_aload_n hx hb dX5_moveAt_56 rfl (lv_at hl 1 rfl) ?_
      refine va_get (D := (dC, dI)) (ci := 3) (v := .ref (ad_p1 0)) (C := RX3) (T := TX3) (N := 2) hx hb hts iX3 hown hK hP 6 rfl rfl 0 (by decide) (hts (.fieldLink RX5 74 "NetHouse$Holding" "many" "[I") (by decide +kernel)) (fun _ h9 => h9) rfl dX5_moveAt_57 ?_
      refine lv_iload_n hx hb dX5_moveAt_60 rfl (lv_at hl 2 rfl) ?_
      refine lv_dup2_11 hx hb dX5_moveAt_61 rfl rfl ?_
      refine va_iald hx hb hK hP 7 0 rfl rfl hw.1 dX5_moveAt_62 ?_
      have hw := hw.2
      refine lv_aload_n hx hb dX5_moveAt_63 rfl (lv_at hl 0 rfl) ?_
      refine va_get (D := (dC, dI)) (ci := 5) (v := .ref (ad_p0 3)) (C := RX5) (T := TX5) (N := 14) hx hb hts iX5 hown hK hP 0 rfl rfl 3 (by decide) (hts (.fieldLink RX5 21 "NetHouse$Net" "puts" "[I") (by decide +kernel)) (fun _ h9 => h9) rfl dX5_moveAt_64 ?_
      refine lv_iload_n hx hb dX5_moveAt_67 rfl (lv_at hl 3 rfl) ?_
      refine va_iald hx hb hK hP 3 0 rfl rfl hw.1 dX5_moveAt_68 ?_
      have hw := hw.2
      refine lv_aload_n hx hb dX5_moveAt_69 rfl (lv_at hl 0 rfl) ?_
      refine va_get (D := (dC, dI)) (ci := 5) (v := .ref (ad_p0 2)) (C := RX5) (T := TX5) (N := 14) hx hb hts iX5 hown hK hP 0 rfl rfl 2 (by decide) (hts (.fieldLink RX5 18 "NetHouse$Net" "takes" "[I") (by decide +kernel)) (fun _ h9 => h9) rfl dX5_moveAt_70 ?_
      refine lv_iload_n hx hb dX5_moveAt_73 rfl (lv_at hl 3 rfl) ?_
      refine va_iald hx hb hK hP 4 0 rfl rfl hw.1 dX5_moveAt_74 ?_
      have hw := hw.2
      refine lv_isub hx hb dX5_moveAt_75 ?_
      refine lv_iadd hx hb dX5_moveAt_76 ?_
      refine va_iast hx hb hK hP hD hS 7 0 rfl rfl hw.1 dX5_moveAt_77 (fun H locs hP hD hS => ?_)
      have hw := hw.2
      have hP : va_P (dC, dI) vwCl (wld_X5_moveAt cI cJ cZ h_p0 h_p1 ad_p0 ad_p1 p0_places p0_steps p0_coloured p0_gifts p0_placeKinds p0_puts p0_takes p0_wants (upd p1_many a2.toNatClampNeg ((p1_many a2.toNatClampNeg) + ((p0_puts a3.toNatClampNeg) - (p0_takes a3.toNatClampNeg)))) p1_things) H := hP
      have hD : va_D A (wld_X5_moveAt cI cJ cZ h_p0 h_p1 ad_p0 ad_p1 p0_places p0_steps p0_coloured p0_gifts p0_placeKinds p0_puts p0_takes p0_wants (upd p1_many a2.toNatClampNeg ((p1_many a2.toNatClampNeg) + ((p0_puts a3.toNatClampNeg) - (p0_takes a3.toNatClampNeg)))) p1_things) := hD
      exact x_vret (w1 := fun (u : (Nat → Int32) × (Nat → Int64)) => (wld_X5_moveAt cI cJ cZ h_p0 h_p1 ad_p0 ad_p1 p0_places p0_steps p0_coloured p0_gifts p0_placeKinds p0_puts p0_takes p0_wants (u.1) (u.2))) hx hb hr hlocks ((upd p1_many a2.toNatClampNeg ((p1_many a2.toNatClampNeg) + ((p0_puts a3.toNatClampNeg) - (p0_takes a3.toNatClampNeg)))), p1_things) hw hP hD hS dX5_moveAt_78
  · have hw := hw.2 c3
    refine lv_aload_n hx hb dX5_moveAt_8 rfl (lv_at hl 1 rfl) ?_
    refine lv_iload_n hx hb dX5_moveAt_9 rfl (lv_at hl 2 rfl) ?_
    refine lv_aload_n hx hb dX5_moveAt_10 rfl (lv_at hl 0 rfl) ?_
    refine va_get (D := (dC, dI)) (ci := 5) (v := .ref (ad_p0 2)) (C := RX5) (T := TX5) (N := 14) hx hb hts iX5 hown hK hP 0 rfl rfl 2 (by decide) (hts (.fieldLink RX5 18 "NetHouse$Net" "takes" "[I") (by decide +kernel)) (fun _ h9 => h9) rfl dX5_moveAt_11 ?_
    refine lv_iload_n hx hb dX5_moveAt_14 rfl (lv_at hl 3 rfl) ?_
    refine va_iald hx hb hK hP 4 0 rfl rfl hw.1 dX5_moveAt_15 ?_
    have hw := hw.2
    refine lv_aload_n hx hb dX5_moveAt_16 rfl (lv_at hl 0 rfl) ?_
    refine va_get (D := (dC, dI)) (ci := 5) (v := .ref (ad_p0 6)) (C := RX5) (T := TX5) (N := 14) hx hb hts iX5 hown hK hP 0 rfl rfl 6 (by decide) (hts (.fieldLink RX5 30 "NetHouse$Net" "wants" "[I") (by decide +kernel)) (fun _ h9 => h9) rfl dX5_moveAt_17 ?_
    refine lv_iload_n hx hb dX5_moveAt_20 rfl (lv_at hl 3 rfl) ?_
    refine va_iald hx hb hK hP 5 0 rfl rfl hw.1 dX5_moveAt_21 ?_
    have hw := hw.2
    obtain ⟨hPc, hDc⟩ := x_sub (wc := (wld_X3_takeFirst cI cJ cZ h_p1 ad_p1 p1_many p1_things)) hP hD [6, 7, 8] (n := 9) rfl rfl (by decide +kernel)
    refine x_callv (ws' := fun (u : (Nat → Int32) × (Nat → Int64)) => (wld_X5_moveAt cI cJ cZ h_p0 h_p1 ad_p0 ad_p1 p0_places p0_steps p0_coloured p0_gifts p0_placeKinds p0_puts p0_takes p0_wants (u.1) (u.2))) hP hD hS hA [6, 7, 8] [0, 1, 2, 3, 4, 5] [0, 1, 2, 3, 4, 5, 6, 7, 8] (n := 9) (k := 3) rfl (fun _ => rfl) rfl (by decide +kernel) (fun _ => rfl) (va_runV (As := [.int a2, .int (p0_takes a3.toNatClampNeg), .int (p0_wants a3.toNatClampNeg)]) (rest := []) ⟨hx, hb, hml, hown, hts⟩ (c_X3_takeFirst (l := l) (dC := dC) (dI := dI) (cI := cI) (cJ := cJ) (cZ := cZ) (sz := H.size) (h_p0 := h_p1) (ad_p0 := ad_p1) (p0_many := p1_many) (p0_things := p1_things) hw) (cwV 3 hts gX5_moveAt_X3_takeFirst rfl rfl rfl (by decide +kernel) ⟨Nat.le_of_ble_eq_true rfl, Nat.le_of_ble_eq_true rfl⟩) ⟨xPre_blind, va_recv hK hP (ci := 3) (q0 := 6) rfl rfl, xPre_at hK hPc hDc n1 n2⟩ rfl rfl hl.1 rfl (lv_room (Nat.le_of_ble_eq_true rfl)) dX5_moveAt_22 ⟨Nat.zero_le _, Nat.zero_le _⟩) (fun u H locs hw hP hD hS => ?_)
    obtain ⟨y6, y7⟩ := u
    try dsimp only at hw
    have hP : va_P (dC, dI) vwCl (wld_X5_moveAt cI cJ cZ h_p0 h_p1 ad_p0 ad_p1 p0_places p0_steps p0_coloured p0_gifts p0_placeKinds p0_puts p0_takes p0_wants y6 y7) H := hP
    have hD : va_D A (wld_X5_moveAt cI cJ cZ h_p0 h_p1 ad_p0 ad_p1 p0_places p0_steps p0_coloured p0_gifts p0_placeKinds p0_puts p0_takes p0_wants y6 y7) := hD
    refine lv_aload_n hx hb dX5_moveAt_25 rfl (lv_at hl 1 rfl) ?_
    refine lv_iload_n hx hb dX5_moveAt_26 rfl (lv_at hl 2 rfl) ?_
    refine lv_aload_n hx hb dX5_moveAt_27 rfl (lv_at hl 0 rfl) ?_
    refine va_get (D := (dC, dI)) (ci := 5) (v := .ref (ad_p0 3)) (C := RX5) (T := TX5) (N := 14) hx hb hts iX5 hown hK hP 0 rfl rfl 3 (by decide) (hts (.fieldLink RX5 21 "NetHouse$Net" "puts" "[I") (by decide +kernel)) (fun _ h9 => h9) rfl dX5_moveAt_28 ?_
    refine lv_iload_n hx hb dX5_moveAt_31 rfl (lv_at hl 3 rfl) ?_
    refine va_iald hx hb hK hP 3 0 rfl rfl hw.1 dX5_moveAt_32 ?_
    have hw := hw.2
    refine lv_aload_n hx hb dX5_moveAt_33 rfl (lv_at hl 0 rfl) ?_
    refine va_get (D := (dC, dI)) (ci := 5) (v := .ref (ad_p0 7)) (C := RX5) (T := TX5) (N := 14) hx hb hts iX5 hown hK hP 0 rfl rfl 7 (by decide) (hts (.fieldLink RX5 33 "NetHouse$Net" "gifts" "[I") (by decide +kernel)) (fun _ h9 => h9) rfl dX5_moveAt_34 ?_
    refine lv_iload_n hx hb dX5_moveAt_37 rfl (lv_at hl 3 rfl) ?_
    refine va_iald hx hb hK hP 1 0 rfl rfl hw.1 dX5_moveAt_38 ?_
    have hw := hw.2
    obtain ⟨hPc, hDc⟩ := x_sub (wc := (wld_X3_appendMany cI cJ cZ h_p1 ad_p1 y6 y7)) hP hD [6, 7, 8] (n := 9) rfl rfl (by decide +kernel)
    refine x_callv (ws' := fun (u : (Nat → Int32) × (Nat → Int64)) => (wld_X5_moveAt cI cJ cZ h_p0 h_p1 ad_p0 ad_p1 p0_places p0_steps p0_coloured p0_gifts p0_placeKinds p0_puts p0_takes p0_wants (u.1) (u.2))) hP hD hS hA [6, 7, 8] [0, 1, 2, 3, 4, 5] [0, 1, 2, 3, 4, 5, 6, 7, 8] (n := 9) (k := 3) rfl (fun _ => rfl) rfl (by decide +kernel) (fun _ => rfl) (va_runV (As := [.int a2, .int (p0_puts a3.toNatClampNeg), .int (p0_gifts a3.toNatClampNeg)]) (rest := []) ⟨hx, hb, hml, hown, hts⟩ (c_X3_appendMany (l := l) (dC := dC) (dI := dI) (cI := cI) (cJ := cJ) (cZ := cZ) (sz := H.size) (h_p0 := h_p1) (ad_p0 := ad_p1) (p0_many := y6) (p0_things := y7) hw) (cwV 3 hts gX5_moveAt_X3_appendMany rfl rfl rfl (by decide +kernel) ⟨Nat.le_of_ble_eq_true rfl, Nat.le_of_ble_eq_true rfl⟩) ⟨xPre_blind, va_recv hK hP (ci := 3) (q0 := 6) rfl rfl, xPre_at hK hPc hDc n1 n2⟩ rfl rfl hl.1 rfl (lv_room (Nat.le_of_ble_eq_true rfl)) dX5_moveAt_39 ⟨Nat.zero_le _, Nat.zero_le _⟩) (fun u H locs hw hP hD hS => ?_)
    obtain ⟨y8, y9⟩ := u
    try dsimp only at hw
    have hP : va_P (dC, dI) vwCl (wld_X5_moveAt cI cJ cZ h_p0 h_p1 ad_p0 ad_p1 p0_places p0_steps p0_coloured p0_gifts p0_placeKinds p0_puts p0_takes p0_wants y8 y9) H := hP
    have hD : va_D A (wld_X5_moveAt cI cJ cZ h_p0 h_p1 ad_p0 ad_p1 p0_places p0_steps p0_coloured p0_gifts p0_placeKinds p0_puts p0_takes p0_wants y8 y9) := hD
    refine lv_goto (tgt := 78) hx hb dX5_moveAt_42 (by decide) ?_
    exact x_vret (w1 := fun (u : (Nat → Int32) × (Nat → Int64)) => (wld_X5_moveAt cI cJ cZ h_p0 h_p1 ad_p0 ad_p1 p0_places p0_steps p0_coloured p0_gifts p0_placeKinds p0_puts p0_takes p0_wants (u.1) (u.2))) hx hb hr hlocks (y8, y9) hw hP hD hS dX5_moveAt_78
abbrev wld_X5_move (cI cJ cZ : ClassId) (h_p0 : Nat) (h_p1 : Nat) (ad_p0 : Nat → Nat) (ad_p1 : Nat → Nat) (p0_places : Int32) (p0_steps : Int32) (p0_coloured : Int32) (p0_gifts : Nat → Int32) (p0_placeKinds : Nat → Int32) (p0_puts : Nat → Int32) (p0_putsInto : Nat → Int32) (p0_takes : Nat → Int32) (p0_takesFrom : Nat → Int32) (p0_wants : Nat → Int32) (p1_many : Nat → Int32) (p1_things : Nat → Int64) : va_W := [(h_p0, .inr (5, [.ref (ad_p0 0), .ref (ad_p0 1), .ref (ad_p0 2), .ref (ad_p0 3), .ref (ad_p0 4), .ref (ad_p0 5), .ref (ad_p0 6), .ref (ad_p0 7), .ref (ad_p0 8), .ref (ad_p0 9), .ref (ad_p0 10), .int p0_places, .int p0_steps, .int p0_coloured])), ((ad_p0 7), .inl (cI, 256, .inl p0_gifts)), ((ad_p0 0), .inl (cI, 16, .inl p0_placeKinds)), ((ad_p0 3), .inl (cI, 256, .inl p0_puts)), ((ad_p0 9), .inl (cI, 16, .inl p0_putsInto)), ((ad_p0 2), .inl (cI, 256, .inl p0_takes)), ((ad_p0 8), .inl (cI, 16, .inl p0_takesFrom)), ((ad_p0 6), .inl (cI, 256, .inl p0_wants)), (h_p1, .inr (3, [.ref (ad_p1 0), .ref (ad_p1 1)])), ((ad_p1 0), .inl (cI, 16, .inl p1_many)), ((ad_p1 1), .inl (cJ, 16, .inr (.inl p1_things)))]
abbrev q_X5_move (dC : Nat → ClassId) (dI : Nat → Nat → Nat) (cI cJ cZ : ClassId) (h_p0 : Nat) (h_p1 : Nat) (ad_p0 : Nat → Nat) (ad_p1 : Nat → Nat) (p0_places : Int32) (p0_steps : Int32) (p0_coloured : Int32) (p0_gifts : Nat → Int32) (p0_placeKinds : Nat → Int32) (p0_puts : Nat → Int32) (p0_putsInto : Nat → Int32) (p0_takes : Nat → Int32) (p0_takesFrom : Nat → Int32) (p0_wants : Nat → Int32) (p1_many : Nat → Int32) (p1_things : Nat → Int64) (post : (Nat → Int32) → (Nat → Int64) → Prop) (A : Nat → Prop) : Array Value → State → Outcome → State → Prop := va_Qv (fun (u : (Nat → Int32) × (Nat → Int64)) => post (u.1) (u.2)) (fun (u : (Nat → Int32) × (Nat → Int64)) t => xPost (dC, dI) A (wld_X5_move cI cJ cZ h_p0 h_p1 ad_p0 ad_p1 p0_places p0_steps p0_coloured p0_gifts p0_placeKinds p0_puts p0_putsInto p0_takes p0_takesFrom p0_wants (u.1) (u.2)) t) A
def w_X5_move_L17b (v2 : Int32) (v3 : Int32) (p0_places : Int32) (p0_gifts : Nat → Int32) (p0_placeKinds : Nat → Int32) (p0_puts : Nat → Int32) (p0_putsInto : Nat → Int32) (p0_takes : Nat → Int32) (p0_takesFrom : Nat → Int32) (p0_wants : Nat → Int32) (post : (Nat → Int32) → (Nat → Int64) → Prop) (K : (Int32) → (Nat → Int32) → (Nat → Int64) → Prop) (rec : (Int32) → (Nat → Int32) → (Nat → Int64) → Prop) (v4 : Int32) (p1_many : Nat → Int32) (p1_things : Nat → Int64) : Prop :=
    (p0_places ≤ v4 →
      K v4 p1_many p1_things) ∧
    (¬ p0_places ≤ v4 →
      ((v3 >>> (v4 &&& 31)) = 0 →
        K v4 p1_many p1_things) ∧
      (¬ (v3 >>> (v4 &&& 31)) = 0 →
        (¬ ((v3 >>> (v4 &&& 31)) &&& (1 : Int32)) = (1 : Int32) →
          ∀ x8 : Int32, x8 = v4 + (1 : Int32) →
          rec x8 p1_many p1_things) ∧
        (((v3 >>> (v4 &&& 31)) &&& (1 : Int32)) = (1 : Int32) →
          w_X9_crossing v2 v4 (fun r9 =>
          w_X5_moveAt p0_gifts p0_placeKinds p0_puts p0_takes p0_wants p1_many p1_things v4 r9 (fun y10 y11 =>
          ∀ x12 : Int32, x12 = v4 + (1 : Int32) →
          rec x12 y10 y11)))))
def w_X5_move_L17 (v2 : Int32) (v3 : Int32) (p0_places : Int32) (p0_gifts : Nat → Int32) (p0_placeKinds : Nat → Int32) (p0_puts : Nat → Int32) (p0_putsInto : Nat → Int32) (p0_takes : Nat → Int32) (p0_takesFrom : Nat → Int32) (p0_wants : Nat → Int32) (post : (Nat → Int32) → (Nat → Int64) → Prop) (K : (Int32) → (Nat → Int32) → (Nat → Int64) → Prop) : Nat → (Int32) → (Nat → Int32) → (Nat → Int64) → Prop
  | 0, _, _, _ => False
  | n + 1, v4, p1_many, p1_things => w_X5_move_L17b v2 v3 p0_places p0_gifts p0_placeKinds p0_puts p0_putsInto p0_takes p0_takesFrom p0_wants post K (w_X5_move_L17 v2 v3 p0_places p0_gifts p0_placeKinds p0_puts p0_putsInto p0_takes p0_takesFrom p0_wants post K n) v4 p1_many p1_things
def w_X5_move (p0_places : Int32) (p0_gifts : Nat → Int32) (p0_placeKinds : Nat → Int32) (p0_puts : Nat → Int32) (p0_putsInto : Nat → Int32) (p0_takes : Nat → Int32) (p0_takesFrom : Nat → Int32) (p0_wants : Nat → Int32) (p1_many : Nat → Int32) (p1_things : Nat → Int64) (a2 : Int32) (post : (Nat → Int32) → (Nat → Int64) → Prop) : Prop :=
  vp_in a2 16 ∧
  vp_in a2 16 ∧
  ∀ x1 : Int32, x1 = ((p0_takesFrom a2.toNatClampNeg) ||| (p0_putsInto a2.toNatClampNeg)) →
  ∃ n : Nat, w_X5_move_L17 a2 x1 p0_places p0_gifts p0_placeKinds p0_puts p0_putsInto p0_takes p0_takesFrom p0_wants post (fun v14 s15 s16 =>
      (post s15 s16)) n (0 : Int32) p1_many p1_things
set_option maxHeartbeats 4000000 in
set_option maxRecDepth 100000 in
theorem c_X5_move_L17 {p : Program} {l : Launch} {e : Env} {s : State} {m : MethodId} {args : Array Value} {below : List Frame} {meth : Method} {c : Code} {dC : Nat → ClassId} {dI : Nat → Nat → Nat} {A : Nat → Prop} {cI cJ cZ : ClassId} {h_p0 : Nat} {h_p1 : Nat} {ad_p0 : Nat → Nat} {ad_p1 : Nat → Nat} {p0_places : Int32} {p0_steps : Int32} {p0_coloured : Int32} {p0_gifts : Nat → Int32} {p0_placeKinds : Nat → Int32} {p0_puts : Nat → Int32} {p0_putsInto : Nat → Int32} {p0_takes : Nat → Int32} {p0_takesFrom : Nat → Int32} {p0_wants : Nat → Int32} {v2 : Int32} {v3 : Int32} {z_p1_many : Nat → Int32} {z_p1_things : Nat → Int64} {post : (Nat → Int32) → (Nat → Int64) → Prop} {K : (Int32) → (Nat → Int32) → (Nat → Int64) → Prop} (E0 : xEnv p s m args meth c cX5_move none 5 RX5 wsX5_move (dC, dI) cI cJ cZ A) (hk : ∀ (v4 : Int32) (p1_many : Nat → Int32) (p1_things : Nat → Int64) (H : Heap) (locs : List Loc) (ls : Array Slot), K v4 p1_many p1_things → va_P (dC, dI) vwCl (wld_X5_move cI cJ cZ h_p0 h_p1 ad_p0 ad_p1 p0_places p0_steps p0_coloured p0_gifts p0_placeKinds p0_puts p0_putsInto p0_takes p0_takesFrom p0_wants p1_many p1_things) H → va_D A (wld_X5_move cI cJ cZ h_p0 h_p1 ad_p0 ad_p1 p0_places p0_steps p0_coloured p0_gifts p0_placeKinds p0_puts p0_putsInto p0_takes p0_takesFrom p0_wants p1_many p1_things) → va_S A s.heap H locs → lv_has ls 5 [] → W p l e ({ frames := 3, cells := 0, slots := 0, locals := 74 }) s m args below meth c H locs 0 0 (MQ below (q_X5_move dC dI cI cJ cZ h_p0 h_p1 ad_p0 ad_p1 p0_places p0_steps p0_coloured p0_gifts p0_placeKinds p0_puts p0_putsInto p0_takes p0_takesFrom p0_wants z_p1_many z_p1_things post A) args s 0 0 A) (F0 m 62 ls [])) : ∀ (n : Nat) (v4 : Int32) (p1_many : Nat → Int32) (p1_things : Nat → Int64), w_X5_move_L17 v2 v3 p0_places p0_gifts p0_placeKinds p0_puts p0_putsInto p0_takes p0_takesFrom p0_wants post K n v4 p1_many p1_things → ∀ (H : Heap) (locs : List Loc) (ls : Array Slot), va_P (dC, dI) vwCl (wld_X5_move cI cJ cZ h_p0 h_p1 ad_p0 ad_p1 p0_places p0_steps p0_coloured p0_gifts p0_placeKinds p0_puts p0_putsInto p0_takes p0_takesFrom p0_wants p1_many p1_things) H → va_D A (wld_X5_move cI cJ cZ h_p0 h_p1 ad_p0 ad_p1 p0_places p0_steps p0_coloured p0_gifts p0_placeKinds p0_puts p0_putsInto p0_takes p0_takesFrom p0_wants p1_many p1_things) → va_S A s.heap H locs → lv_has ls 5 [(0, .ref h_p0), (1, .ref h_p1), (2, .int v2), (3, .int v3), (4, .int v4)] → W p l e ({ frames := 3, cells := 0, slots := 0, locals := 74 }) s m args below meth c H locs 0 0 (MQ below (q_X5_move dC dI cI cJ cZ h_p0 h_p1 ad_p0 ad_p1 p0_places p0_steps p0_coloured p0_gifts p0_placeKinds p0_puts p0_putsInto p0_takes p0_takesFrom p0_wants z_p1_many z_p1_things post A) args s 0 0 A) (F0 m 17 ls []) := by
  obtain ⟨hx, hb, hr, hml, hown, hts, hlocks, hK, hA, n1, n2⟩ := id E0
  have iX3 : ∀ w ∈ u_ws RX3 TX3 2, w ∈ wsX5_move := fun w h => List.mem_cons_of_mem _ (List.mem_append_right _ h)
  have iX5 : ∀ w ∈ u_ws RX5 TX5 14, w ∈ wsX5_move := fun w h => List.mem_cons_of_mem _ (List.mem_append_left _ (List.mem_append_right _ h))
  intro n
  induction n with
  | zero => intro v4 p1_many p1_things hw; exact hw.elim
  | succ n ih =>
    intro v4 p1_many p1_things hw H locs ls hP hD hS hl
    have hw : w_X5_move_L17b v2 v3 p0_places p0_gifts p0_placeKinds p0_puts p0_putsInto p0_takes p0_takesFrom p0_wants post K (w_X5_move_L17 v2 v3 p0_places p0_gifts p0_placeKinds p0_puts p0_putsInto p0_takes p0_takesFrom p0_wants post K n) v4 p1_many p1_things := hw
    unfold w_X5_move_L17b at hw
    refine lv_iload hx hb dX5_move_17 (lv_at hl 4 rfl) ?_
    refine lv_aload_n hx hb dX5_move_19 rfl (lv_at hl 0 rfl) ?_
    refine va_get (D := (dC, dI)) (ci := 5) (v := .int p0_places) (C := RX5) (T := TX5) (N := 14) hx hb hts iX5 hown hK hP 0 rfl rfl 11 (by decide) (hts (.fieldLink RX5 45 "NetHouse$Net" "places" "I") (by decide +kernel)) (fun _ h9 => h9) rfl dX5_move_20 ?_
    refine lv_icmp_ge (tgt := 62) hx hb dX5_move_23 (by decide) (fun c2 => ?_) (fun c3 => ?_)
    · have hw := hw.1 c2
      exact hk _ _ _ _ _ _ hw hP hD hS (lv_sub hl [] rfl)
    · have hw := hw.2 c3
      refine lv_iload_n hx hb dX5_move_26 rfl (lv_at hl 3 rfl) ?_
      refine lv_iload hx hb dX5_move_27 (lv_at hl 4 rfl) ?_
      refine lv_ishr hx hb dX5_move_29 ?_
      refine lv_if_eq (tgt := 62) hx hb dX5_move_30 (by decide) (fun c4 => ?_) (fun c5 => ?_)
      · have hw := hw.1 c4
        exact hk _ _ _ _ _ _ hw hP hD hS (lv_sub hl [] rfl)
      · have hw := hw.2 c5
        refine lv_iload_n hx hb dX5_move_33 rfl (lv_at hl 3 rfl) ?_
        refine lv_iload hx hb dX5_move_34 (lv_at hl 4 rfl) ?_
        refine lv_ishr hx hb dX5_move_36 ?_
        refine lv_iconst (v := 1) hx hb dX5_move_37 (by decide) ?_
        refine lv_iand hx hb dX5_move_38 ?_
        refine lv_iconst (v := 1) hx hb dX5_move_39 (by decide) ?_
        refine lv_icmp_ne (tgt := 56) hx hb dX5_move_40 (by decide) (fun c6 => ?_) (fun c7 => ?_)
        · have hw := hw.1 c6
          obtain ⟨x8, ex8⟩ : ∃ y : Int32, y = v4 + (1 : Int32) := ⟨_, rfl⟩
          have hw := hw x8 ex8
          refine lv_iinc (v := x8) (lv' := [(4, .int x8), (0, .ref h_p0), (1, .ref h_p1), (2, .int v2), (3, .int v3)]) hx hb dX5_move_56 hl (k := 4) rfl (by rw [ex8]; rfl) (by decide) rfl (fun ls hl => ?_)
          refine lv_goto (tgt := 17) hx hb dX5_move_59 (by decide) ?_
          exact ih _ _ _ hw _ _ _ hP hD hS (lv_sub hl [1, 2, 3, 4, 0] rfl)
        · have hw := hw.2 c7
          refine lv_aload_n hx hb dX5_move_43 rfl (lv_at hl 0 rfl) ?_
          refine lv_aload_n hx hb dX5_move_44 rfl (lv_at hl 1 rfl) ?_
          refine lv_iload hx hb dX5_move_45 (lv_at hl 4 rfl) ?_
          refine lv_iload_n hx hb dX5_move_47 rfl (lv_at hl 2 rfl) ?_
          refine lv_iload hx hb dX5_move_48 (lv_at hl 4 rfl) ?_
          obtain ⟨hPc, hDc⟩ := x_sub (wc := (wld_X9_crossing cI cJ cZ )) hP hD [] (n := 11) rfl rfl (by decide +kernel)
          refine x_calli (ws' := fun (u : Unit) => (wld_X5_move cI cJ cZ h_p0 h_p1 ad_p0 ad_p1 p0_places p0_steps p0_coloured p0_gifts p0_placeKinds p0_puts p0_putsInto p0_takes p0_takesFrom p0_wants p1_many p1_things)) hP hD hS hA [] [0, 1, 2, 3, 4, 5, 6, 7, 8, 9, 10] [0, 1, 2, 3, 4, 5, 6, 7, 8, 9, 10] (n := 11) (k := 0) rfl (fun _ => rfl) rfl (by decide +kernel) (fun _ => rfl) (va_runSN (As := [.int v2, .int v4]) (rest := [.int v4, .ref h_p1, .ref h_p0]) ⟨hx, hb, hml, hown, hts⟩ (c_X9_crossing (l := l) (dC := dC) (dI := dI) (cI := cI) (cJ := cJ) (cZ := cZ) (sz := H.size) hw) ⟨va_cnB (host := RX9) 2 hts gX5_move_X9_crossing_n55 rfl rfl rfl n1 (hts (.initialized RX9) (by decide +kernel)) (by decide +kernel) ⟨Nat.le_of_ble_eq_true rfl, Nat.le_of_ble_eq_true rfl⟩, hts (.static yX9_crossing) (by decide +kernel), trivial⟩ ⟨xPre_blind, xPre_at hK hPc hDc n1 n2⟩ rfl rfl hl.1 rfl (lv_room (Nat.le_of_ble_eq_true rfl)) dX5_move_50 ⟨Nat.zero_le _, Nat.zero_le _⟩) (fun r9 u H locs hw hP hD hS => ?_)
          try dsimp only at hw
          have hP : va_P (dC, dI) vwCl (wld_X5_move cI cJ cZ h_p0 h_p1 ad_p0 ad_p1 p0_places p0_steps p0_coloured p0_gifts p0_placeKinds p0_puts p0_putsInto p0_takes p0_takesFrom p0_wants p1_many p1_things) H := hP
          have hD : va_D A (wld_X5_move cI cJ cZ h_p0 h_p1 ad_p0 ad_p1 p0_places p0_steps p0_coloured p0_gifts p0_placeKinds p0_puts p0_putsInto p0_takes p0_takesFrom p0_wants p1_many p1_things) := hD
          obtain ⟨hPc, hDc⟩ := x_sub (wc := (wld_X5_moveAt cI cJ cZ h_p0 h_p1 ad_p0 ad_p1 p0_places p0_steps p0_coloured p0_gifts p0_placeKinds p0_puts p0_takes p0_wants p1_many p1_things)) hP hD [0, 1, 2, 3, 5, 7, 8, 9, 10] (n := 11) rfl rfl (by decide +kernel)
          refine x_callv (ws' := fun (u : (Nat → Int32) × (Nat → Int64)) => (wld_X5_move cI cJ cZ h_p0 h_p1 ad_p0 ad_p1 p0_places p0_steps p0_coloured p0_gifts p0_placeKinds p0_puts p0_putsInto p0_takes p0_takesFrom p0_wants (u.1) (u.2))) hP hD hS hA [0, 1, 2, 3, 5, 7, 8, 9, 10] [4, 6] [2, 3, 4, 5, 0, 6, 1, 7, 8, 9, 10] (n := 11) (k := 9) rfl (fun _ => rfl) rfl (by decide +kernel) (fun _ => rfl) (va_runV (As := [.ref h_p1, .int v4, .int r9]) (rest := []) ⟨hx, hb, hml, hown, hts⟩ (c_X5_moveAt (l := l) (dC := dC) (dI := dI) (cI := cI) (cJ := cJ) (cZ := cZ) (sz := H.size) (h_p0 := h_p0) (h_p1 := h_p1) (ad_p0 := ad_p0) (ad_p1 := ad_p1) (p0_places := p0_places) (p0_steps := p0_steps) (p0_coloured := p0_coloured) (p0_gifts := p0_gifts) (p0_placeKinds := p0_placeKinds) (p0_puts := p0_puts) (p0_takes := p0_takes) (p0_wants := p0_wants) (p1_many := p1_many) (p1_things := p1_things) hw) (cwV 3 hts gX5_move_X5_moveAt rfl rfl rfl (by decide +kernel) ⟨Nat.le_of_ble_eq_true rfl, Nat.le_of_ble_eq_true rfl⟩) ⟨xPre_blind, va_recv hK hP (ci := 5) (q0 := 0) rfl rfl, xPre_at hK hPc hDc n1 n2⟩ rfl rfl hl.1 rfl (lv_room (Nat.le_of_ble_eq_true rfl)) dX5_move_53 ⟨Nat.zero_le _, Nat.zero_le _⟩) (fun u H locs hw hP hD hS => ?_)
          obtain ⟨y10, y11⟩ := u
          try dsimp only at hw
          have hP : va_P (dC, dI) vwCl (wld_X5_move cI cJ cZ h_p0 h_p1 ad_p0 ad_p1 p0_places p0_steps p0_coloured p0_gifts p0_placeKinds p0_puts p0_putsInto p0_takes p0_takesFrom p0_wants y10 y11) H := hP
          have hD : va_D A (wld_X5_move cI cJ cZ h_p0 h_p1 ad_p0 ad_p1 p0_places p0_steps p0_coloured p0_gifts p0_placeKinds p0_puts p0_putsInto p0_takes p0_takesFrom p0_wants y10 y11) := hD
          obtain ⟨x12, ex12⟩ : ∃ y : Int32, y = v4 + (1 : Int32) := ⟨_, rfl⟩
          have hw := hw x12 ex12
          refine lv_iinc (v := x12) (lv' := [(4, .int x12), (0, .ref h_p0), (1, .ref h_p1), (2, .int v2), (3, .int v3)]) hx hb dX5_move_56 hl (k := 4) rfl (by rw [ex12]; rfl) (by decide) rfl (fun ls hl => ?_)
          refine lv_goto (tgt := 17) hx hb dX5_move_59 (by decide) ?_
          exact ih _ _ _ hw _ _ _ hP hD hS (lv_sub hl [1, 2, 3, 4, 0] rfl)
set_option maxHeartbeats 4000000 in
set_option maxRecDepth 100000 in
theorem c_X5_move {l : Launch} {dC : Nat → ClassId} {dI : Nat → Nat → Nat} {sz : Nat} {cI cJ cZ : ClassId} {h_p0 : Nat} {h_p1 : Nat} {ad_p0 : Nat → Nat} {ad_p1 : Nat → Nat} {p0_places : Int32} {p0_steps : Int32} {p0_coloured : Int32} {p0_gifts : Nat → Int32} {p0_placeKinds : Nat → Int32} {p0_puts : Nat → Int32} {p0_putsInto : Nat → Int32} {p0_takes : Nat → Int32} {p0_takesFrom : Nat → Int32} {p0_wants : Nat → Int32} {p1_many : Nat → Int32} {p1_things : Nat → Int64} {a2 : Int32} {post : (Nat → Int32) → (Nat → Int64) → Prop} (hw : w_X5_move p0_places p0_gifts p0_placeKinds p0_puts p0_putsInto p0_takes p0_takesFrom p0_wants p1_many p1_things a2 post) : Met l yX5_move wsX5_move ({ frames := 3, cells := 0, slots := 0, locals := 74 }) (va_Pc [.ref h_p0, .ref h_p1, .int a2] (xPre (dC, dI) cI cJ cZ (wld_X5_move cI cJ cZ h_p0 h_p1 ad_p0 ad_p1 p0_places p0_steps p0_coloured p0_gifts p0_placeKinds p0_puts p0_putsInto p0_takes p0_takesFrom p0_wants p1_many p1_things) sz)) (q_X5_move dC dI cI cJ cZ h_p0 h_p1 ad_p0 ad_p1 p0_places p0_steps p0_coloured p0_gifts p0_placeKinds p0_puts p0_putsInto p0_takes p0_takesFrom p0_wants p1_many p1_things post (va_A (wld_X5_move cI cJ cZ h_p0 h_p1 ad_p0 ad_p1 p0_places p0_steps p0_coloured p0_gifts p0_placeKinds p0_puts p0_putsInto p0_takes p0_takesFrom p0_wants p1_many p1_things) sz)) 0 0 (va_A (wld_X5_move cI cJ cZ h_p0 h_p1 ad_p0 ad_p1 p0_places p0_steps p0_coloured p0_gifts p0_placeKinds p0_puts p0_putsInto p0_takes p0_takesFrom p0_wants p1_many p1_things) sz) := by
  refine x_met (cc := cX5_move) (maxL := 5) (ret := none) (own := RX5) (Qc := fun A => (q_X5_move dC dI cI cJ cZ h_p0 h_p1 ad_p0 ad_p1 p0_places p0_steps p0_coloured p0_gifts p0_placeKinds p0_puts p0_putsInto p0_takes p0_takesFrom p0_wants p1_many p1_things post A)) (by decide) rfl rfl (Nat.le_of_ble_eq_true rfl) ?_
  intro p e s m args below meth c A ls E0 hP hD hS hl
  obtain ⟨hx, hb, hr, hml, hown, hts, hlocks, hK, hA, n1, n2⟩ := id E0
  have iX3 : ∀ w ∈ u_ws RX3 TX3 2, w ∈ wsX5_move := fun w h => List.mem_cons_of_mem _ (List.mem_append_right _ h)
  have iX5 : ∀ w ∈ u_ws RX5 TX5 14, w ∈ wsX5_move := fun w h => List.mem_cons_of_mem _ (List.mem_append_left _ (List.mem_append_right _ h))
  have hS0 := hS
  have hl : lv_has ls 5 [(0, .ref h_p0), (1, .ref h_p1), (2, .int a2)] := hl
  unfold w_X5_move at hw
  obtain ⟨H, hH⟩ : ∃ H, H = s.heap := ⟨_, rfl⟩
  have hS : va_S A s.heap H [] := by rw [hH]; exact hS
  have hP : va_P (dC, dI) vwCl (wld_X5_move cI cJ cZ h_p0 h_p1 ad_p0 ad_p1 p0_places p0_steps p0_coloured p0_gifts p0_placeKinds p0_puts p0_putsInto p0_takes p0_takesFrom p0_wants p1_many p1_things) H := by rw [hH]; exact hP
  suffices hG : W p l e ({ frames := 3, cells := 0, slots := 0, locals := 74 }) s m args below meth c H [] 0 0 (MQ below (q_X5_move dC dI cI cJ cZ h_p0 h_p1 ad_p0 ad_p1 p0_places p0_steps p0_coloured p0_gifts p0_placeKinds p0_puts p0_putsInto p0_takes p0_takesFrom p0_wants p1_many p1_things post A) args s 0 0 A) (F0 m 0 ls []) by rw [hH] at hG; exact hG
  clear hH
  refine lv_aload_n hx hb dX5_move_0 rfl (lv_at hl 0 rfl) ?_
  refine va_get (D := (dC, dI)) (ci := 5) (v := .ref (ad_p0 8)) (C := RX5) (T := TX5) (N := 14) hx hb hts iX5 hown hK hP 0 rfl rfl 8 (by decide) (hts (.fieldLink RX5 36 "NetHouse$Net" "takesFrom" "[I") (by decide +kernel)) (fun _ h9 => h9) rfl dX5_move_1 ?_
  refine lv_iload_n hx hb dX5_move_4 rfl (lv_at hl 2 rfl) ?_
  refine va_iald hx hb hK hP 6 0 rfl rfl hw.1 dX5_move_5 ?_
  have hw := hw.2
  refine lv_aload_n hx hb dX5_move_6 rfl (lv_at hl 0 rfl) ?_
  refine va_get (D := (dC, dI)) (ci := 5) (v := .ref (ad_p0 9)) (C := RX5) (T := TX5) (N := 14) hx hb hts iX5 hown hK hP 0 rfl rfl 9 (by decide) (hts (.fieldLink RX5 39 "NetHouse$Net" "putsInto" "[I") (by decide +kernel)) (fun _ h9 => h9) rfl dX5_move_7 ?_
  refine lv_iload_n hx hb dX5_move_10 rfl (lv_at hl 2 rfl) ?_
  refine va_iald hx hb hK hP 4 0 rfl rfl hw.1 dX5_move_11 ?_
  have hw := hw.2
  refine lv_ior hx hb dX5_move_12 ?_
  refine lv_topi (fun x1 ex1 => ?_)
  have hw := hw x1 ex1
  refine lv_istore_n (lv' := [(3, .int x1), (0, .ref h_p0), (1, .ref h_p1), (2, .int a2)]) hx hb dX5_move_13 rfl hl (by decide) rfl (fun ls hl => ?_)
  refine lv_iconst (v := 0) hx hb dX5_move_14 (by decide) ?_
  refine lv_istore (lv' := [(4, .int (0 : Int32)), (3, .int x1), (0, .ref h_p0), (1, .ref h_p1), (2, .int a2)]) hx hb dX5_move_15 hl (by decide) rfl (fun ls hl => ?_)
  obtain ⟨n13, hw⟩ := hw
  refine c_X5_move_L17 (l := l) (z_p1_many := p1_many) (z_p1_things := p1_things) E0 ?_ n13 _ _ _ hw _ _ _ hP hD hS (lv_sub hl [2, 3, 4, 1, 0] rfl)
  · intro v14 s15 s16 H locs ls hw hP hD hS hl
    have hP : va_P (dC, dI) vwCl (wld_X5_move cI cJ cZ h_p0 h_p1 ad_p0 ad_p1 p0_places p0_steps p0_coloured p0_gifts p0_placeKinds p0_puts p0_putsInto p0_takes p0_takesFrom p0_wants s15 s16) H := hP
    have hD : va_D A (wld_X5_move cI cJ cZ h_p0 h_p1 ad_p0 ad_p1 p0_places p0_steps p0_coloured p0_gifts p0_placeKinds p0_puts p0_putsInto p0_takes p0_takesFrom p0_wants s15 s16) := hD
    exact x_vret (w1 := fun (u : (Nat → Int32) × (Nat → Int64)) => (wld_X5_move cI cJ cZ h_p0 h_p1 ad_p0 ad_p1 p0_places p0_steps p0_coloured p0_gifts p0_placeKinds p0_puts p0_putsInto p0_takes p0_takesFrom p0_wants (u.1) (u.2))) hx hb hr hlocks (s15, s16) hw hP hD hS dX5_move_62
abbrev wld_X5_urges (cI cJ cZ : ClassId) (h_p0 : Nat) (h_p1 : Nat) (ad_p0 : Nat → Nat) (ad_p1 : Nat → Nat) (p0_places : Int32) (p0_steps : Int32) (p0_coloured : Int32) (p0_closed : Nat → Int32) (p0_heeds : Nat → Int32) (p0_needs : Nat → Int32) (p0_placeKinds : Nat → Int32) (p0_stepKinds : Nat → Int32) (p0_takes : Nat → Int32) (p0_wants : Nat → Int32) (p1_many : Nat → Int32) (p1_things : Nat → Int64) : va_W := [(h_p0, .inr (5, [.ref (ad_p0 0), .ref (ad_p0 1), .ref (ad_p0 2), .ref (ad_p0 3), .ref (ad_p0 4), .ref (ad_p0 5), .ref (ad_p0 6), .ref (ad_p0 7), .ref (ad_p0 8), .ref (ad_p0 9), .ref (ad_p0 10), .int p0_places, .int p0_steps, .int p0_coloured])), ((ad_p0 5), .inl (cI, 256, .inl p0_closed)), ((ad_p0 10), .inl (cI, 16, .inl p0_heeds)), ((ad_p0 4), .inl (cI, 256, .inl p0_needs)), ((ad_p0 0), .inl (cI, 16, .inl p0_placeKinds)), ((ad_p0 1), .inl (cI, 16, .inl p0_stepKinds)), ((ad_p0 2), .inl (cI, 256, .inl p0_takes)), ((ad_p0 6), .inl (cI, 256, .inl p0_wants)), (h_p1, .inr (3, [.ref (ad_p1 0), .ref (ad_p1 1)])), ((ad_p1 0), .inl (cI, 16, .inl p1_many)), ((ad_p1 1), .inl (cJ, 16, .inr (.inl p1_things)))]
abbrev q_X5_urges (dC : Nat → ClassId) (dI : Nat → Nat → Nat) (cI cJ cZ : ClassId) (h_p0 : Nat) (h_p1 : Nat) (ad_p0 : Nat → Nat) (ad_p1 : Nat → Nat) (p0_places : Int32) (p0_steps : Int32) (p0_coloured : Int32) (p0_closed : Nat → Int32) (p0_heeds : Nat → Int32) (p0_needs : Nat → Int32) (p0_placeKinds : Nat → Int32) (p0_stepKinds : Nat → Int32) (p0_takes : Nat → Int32) (p0_wants : Nat → Int32) (p1_many : Nat → Int32) (p1_things : Nat → Int64) (post : Int32 → Prop) (A : Nat → Prop) : Array Value → State → Outcome → State → Prop := va_Qi (fun r (u : Unit) => post r ) (fun (u : Unit) t => xPost (dC, dI) A (wld_X5_urges cI cJ cZ h_p0 h_p1 ad_p0 ad_p1 p0_places p0_steps p0_coloured p0_closed p0_heeds p0_needs p0_placeKinds p0_stepKinds p0_takes p0_wants p1_many p1_things) t) A
def w_X5_urges_L2b (p0_places : Int32) (p0_steps : Int32) (p0_closed : Nat → Int32) (p0_heeds : Nat → Int32) (p0_needs : Nat → Int32) (p0_placeKinds : Nat → Int32) (p0_stepKinds : Nat → Int32) (p0_takes : Nat → Int32) (p0_wants : Nat → Int32) (p1_many : Nat → Int32) (p1_things : Nat → Int64) (post : Int32 → Prop) (K : (Int32) → Prop) (rec : (Int32) → Prop) (v2 : Int32) : Prop :=
    (p0_steps ≤ v2 →
      K v2) ∧
    (¬ p0_steps ≤ v2 →
      vp_in v2 16 ∧
      (¬ (p0_stepKinds v2.toNatClampNeg) = (3 : Int32) →
        ∀ x5 : Int32, x5 = v2 + (1 : Int32) →
        rec x5) ∧
      ((p0_stepKinds v2.toNatClampNeg) = (3 : Int32) →
        w_X5_allows p0_places p0_closed p0_heeds p0_needs p0_placeKinds p0_takes p0_wants p1_many p1_things v2 (fun r6 =>
        (r6 = 0 →
          ∀ x9 : Int32, x9 = v2 + (1 : Int32) →
          rec x9) ∧
        (¬ r6 = 0 →
          (post (1 : Int32))))))
def w_X5_urges_L2 (p0_places : Int32) (p0_steps : Int32) (p0_closed : Nat → Int32) (p0_heeds : Nat → Int32) (p0_needs : Nat → Int32) (p0_placeKinds : Nat → Int32) (p0_stepKinds : Nat → Int32) (p0_takes : Nat → Int32) (p0_wants : Nat → Int32) (p1_many : Nat → Int32) (p1_things : Nat → Int64) (post : Int32 → Prop) (K : (Int32) → Prop) : Nat → (Int32) → Prop
  | 0, _ => False
  | n + 1, v2 => w_X5_urges_L2b p0_places p0_steps p0_closed p0_heeds p0_needs p0_placeKinds p0_stepKinds p0_takes p0_wants p1_many p1_things post K (w_X5_urges_L2 p0_places p0_steps p0_closed p0_heeds p0_needs p0_placeKinds p0_stepKinds p0_takes p0_wants p1_many p1_things post K n) v2
def w_X5_urges (p0_places : Int32) (p0_steps : Int32) (p0_closed : Nat → Int32) (p0_heeds : Nat → Int32) (p0_needs : Nat → Int32) (p0_placeKinds : Nat → Int32) (p0_stepKinds : Nat → Int32) (p0_takes : Nat → Int32) (p0_wants : Nat → Int32) (p1_many : Nat → Int32) (p1_things : Nat → Int64) (post : Int32 → Prop) : Prop :=
  ∃ n : Nat, w_X5_urges_L2 p0_places p0_steps p0_closed p0_heeds p0_needs p0_placeKinds p0_stepKinds p0_takes p0_wants p1_many p1_things post (fun v11 =>
      (post (0 : Int32))) n (0 : Int32)
set_option maxHeartbeats 4000000 in
set_option maxRecDepth 100000 in
theorem c_X5_urges_L2 {p : Program} {l : Launch} {e : Env} {s : State} {m : MethodId} {args : Array Value} {below : List Frame} {meth : Method} {c : Code} {dC : Nat → ClassId} {dI : Nat → Nat → Nat} {A : Nat → Prop} {cI cJ cZ : ClassId} {h_p0 : Nat} {h_p1 : Nat} {ad_p0 : Nat → Nat} {ad_p1 : Nat → Nat} {p0_places : Int32} {p0_steps : Int32} {p0_coloured : Int32} {p0_closed : Nat → Int32} {p0_heeds : Nat → Int32} {p0_needs : Nat → Int32} {p0_placeKinds : Nat → Int32} {p0_stepKinds : Nat → Int32} {p0_takes : Nat → Int32} {p0_wants : Nat → Int32} {p1_many : Nat → Int32} {p1_things : Nat → Int64}  {post : Int32 → Prop} {K : (Int32) → Prop} (E0 : xEnv p s m args meth c cX5_urges (some .boolean) 3 RX5 wsX5_urges (dC, dI) cI cJ cZ A) (hk : ∀ (v2 : Int32) (H : Heap) (locs : List Loc) (ls : Array Slot), K v2 → va_P (dC, dI) vwCl (wld_X5_urges cI cJ cZ h_p0 h_p1 ad_p0 ad_p1 p0_places p0_steps p0_coloured p0_closed p0_heeds p0_needs p0_placeKinds p0_stepKinds p0_takes p0_wants p1_many p1_things) H → va_D A (wld_X5_urges cI cJ cZ h_p0 h_p1 ad_p0 ad_p1 p0_places p0_steps p0_coloured p0_closed p0_heeds p0_needs p0_placeKinds p0_stepKinds p0_takes p0_wants p1_many p1_things) → va_S A s.heap H locs → lv_has ls 3 [] → W p l e ({ frames := 3, cells := 0, slots := 0, locals := 72 }) s m args below meth c H locs 0 0 (MQ below (q_X5_urges dC dI cI cJ cZ h_p0 h_p1 ad_p0 ad_p1 p0_places p0_steps p0_coloured p0_closed p0_heeds p0_needs p0_placeKinds p0_stepKinds p0_takes p0_wants p1_many p1_things post A) args s 0 0 A) (F0 m 37 ls [])) : ∀ (n : Nat) (v2 : Int32), w_X5_urges_L2 p0_places p0_steps p0_closed p0_heeds p0_needs p0_placeKinds p0_stepKinds p0_takes p0_wants p1_many p1_things post K n v2 → ∀ (H : Heap) (locs : List Loc) (ls : Array Slot), va_P (dC, dI) vwCl (wld_X5_urges cI cJ cZ h_p0 h_p1 ad_p0 ad_p1 p0_places p0_steps p0_coloured p0_closed p0_heeds p0_needs p0_placeKinds p0_stepKinds p0_takes p0_wants p1_many p1_things) H → va_D A (wld_X5_urges cI cJ cZ h_p0 h_p1 ad_p0 ad_p1 p0_places p0_steps p0_coloured p0_closed p0_heeds p0_needs p0_placeKinds p0_stepKinds p0_takes p0_wants p1_many p1_things) → va_S A s.heap H locs → lv_has ls 3 [(0, .ref h_p0), (1, .ref h_p1), (2, .int v2)] → W p l e ({ frames := 3, cells := 0, slots := 0, locals := 72 }) s m args below meth c H locs 0 0 (MQ below (q_X5_urges dC dI cI cJ cZ h_p0 h_p1 ad_p0 ad_p1 p0_places p0_steps p0_coloured p0_closed p0_heeds p0_needs p0_placeKinds p0_stepKinds p0_takes p0_wants p1_many p1_things post A) args s 0 0 A) (F0 m 2 ls []) := by
  obtain ⟨hx, hb, hr, hml, hown, hts, hlocks, hK, hA, n1, n2⟩ := id E0
  have iX3 : ∀ w ∈ u_ws RX3 TX3 2, w ∈ wsX5_urges := fun w h => List.mem_cons_of_mem _ (List.mem_append_right _ h)
  have iX5 : ∀ w ∈ u_ws RX5 TX5 14, w ∈ wsX5_urges := fun w h => List.mem_cons_of_mem _ (List.mem_append_left _ (List.mem_append_right _ h))
  intro n
  induction n with
  | zero => intro v2 hw; exact hw.elim
  | succ n ih =>
    intro v2 hw H locs ls hP hD hS hl
    have hw : w_X5_urges_L2b p0_places p0_steps p0_closed p0_heeds p0_needs p0_placeKinds p0_stepKinds p0_takes p0_wants p1_many p1_things post K (w_X5_urges_L2 p0_places p0_steps p0_closed p0_heeds p0_needs p0_placeKinds p0_stepKinds p0_takes p0_wants p1_many p1_things post K n) v2 := hw
    unfold w_X5_urges_L2b at hw
    refine lv_iload_n hx hb dX5_urges_2 rfl (lv_at hl 2 rfl) ?_
    refine lv_aload_n hx hb dX5_urges_3 rfl (lv_at hl 0 rfl) ?_
    refine va_get (D := (dC, dI)) (ci := 5) (v := .int p0_steps) (C := RX5) (T := TX5) (N := 14) hx hb hts iX5 hown hK hP 0 rfl rfl 12 (by decide) (hts (.fieldLink RX5 49 "NetHouse$Net" "steps" "I") (by decide +kernel)) (fun _ h9 => h9) rfl dX5_urges_4 ?_
    refine lv_icmp_ge (tgt := 37) hx hb dX5_urges_7 (by decide) (fun c1 => ?_) (fun c2 => ?_)
    · have hw := hw.1 c1
      exact hk _ _ _ _ hw hP hD hS (lv_sub hl [] rfl)
    · have hw := hw.2 c2
      refine lv_aload_n hx hb dX5_urges_10 rfl (lv_at hl 0 rfl) ?_
      refine va_get (D := (dC, dI)) (ci := 5) (v := .ref (ad_p0 1)) (C := RX5) (T := TX5) (N := 14) hx hb hts iX5 hown hK hP 0 rfl rfl 1 (by decide) (hts (.fieldLink RX5 15 "NetHouse$Net" "stepKinds" "[I") (by decide +kernel)) (fun _ h9 => h9) rfl dX5_urges_11 ?_
      refine lv_iload_n hx hb dX5_urges_14 rfl (lv_at hl 2 rfl) ?_
      refine va_iald hx hb hK hP 5 0 rfl rfl hw.1 dX5_urges_15 ?_
      have hw := hw.2
      refine lv_iconst (v := 3) hx hb dX5_urges_16 (by decide) ?_
      refine lv_icmp_ne (tgt := 31) hx hb dX5_urges_17 (by decide) (fun c3 => ?_) (fun c4 => ?_)
      · have hw := hw.1 c3
        obtain ⟨x5, ex5⟩ : ∃ y : Int32, y = v2 + (1 : Int32) := ⟨_, rfl⟩
        have hw := hw x5 ex5
        refine lv_iinc (v := x5) (lv' := [(2, .int x5), (0, .ref h_p0), (1, .ref h_p1)]) hx hb dX5_urges_31 hl (k := 2) rfl (by rw [ex5]; rfl) (by decide) rfl (fun ls hl => ?_)
        refine lv_goto (tgt := 2) hx hb dX5_urges_34 (by decide) ?_
        exact ih _ hw _ _ _ hP hD hS (lv_sub hl [1, 2, 0] rfl)
      · have hw := hw.2 c4
        refine lv_aload_n hx hb dX5_urges_20 rfl (lv_at hl 0 rfl) ?_
        refine lv_aload_n hx hb dX5_urges_21 rfl (lv_at hl 1 rfl) ?_
        refine lv_iload_n hx hb dX5_urges_22 rfl (lv_at hl 2 rfl) ?_
        obtain ⟨hPc, hDc⟩ := x_sub (wc := (wld_X5_allows cI cJ cZ h_p0 h_p1 ad_p0 ad_p1 p0_places p0_steps p0_coloured p0_closed p0_heeds p0_needs p0_placeKinds p0_takes p0_wants p1_many p1_things)) hP hD [0, 1, 2, 3, 4, 6, 7, 8, 9, 10] (n := 11) rfl rfl (by decide +kernel)
        refine x_calli (ws' := fun (u : Unit) => (wld_X5_urges cI cJ cZ h_p0 h_p1 ad_p0 ad_p1 p0_places p0_steps p0_coloured p0_closed p0_heeds p0_needs p0_placeKinds p0_stepKinds p0_takes p0_wants p1_many p1_things)) hP hD hS hA [0, 1, 2, 3, 4, 6, 7, 8, 9, 10] [5] [1, 2, 3, 4, 5, 0, 6, 7, 8, 9, 10] (n := 11) (k := 10) rfl (fun _ => rfl) rfl (by decide +kernel) (fun _ => rfl) (va_runV (As := [.ref h_p1, .int v2]) (rest := []) ⟨hx, hb, hml, hown, hts⟩ (c_X5_allows (l := l) (dC := dC) (dI := dI) (cI := cI) (cJ := cJ) (cZ := cZ) (sz := H.size) (h_p0 := h_p0) (h_p1 := h_p1) (ad_p0 := ad_p0) (ad_p1 := ad_p1) (p0_places := p0_places) (p0_steps := p0_steps) (p0_coloured := p0_coloured) (p0_closed := p0_closed) (p0_heeds := p0_heeds) (p0_needs := p0_needs) (p0_placeKinds := p0_placeKinds) (p0_takes := p0_takes) (p0_wants := p0_wants) (p1_many := p1_many) (p1_things := p1_things) hw) (cwV 2 hts gX5_urges_X5_allows rfl rfl rfl (by decide +kernel) ⟨Nat.le_of_ble_eq_true rfl, Nat.le_of_ble_eq_true rfl⟩) ⟨xPre_blind, va_recv hK hP (ci := 5) (q0 := 0) rfl rfl, xPre_at hK hPc hDc n1 n2⟩ rfl rfl hl.1 rfl (lv_room (Nat.le_of_ble_eq_true rfl)) dX5_urges_23 ⟨Nat.zero_le _, Nat.zero_le _⟩) (fun r6 u H locs hw hP hD hS => ?_)
        try dsimp only at hw
        have hP : va_P (dC, dI) vwCl (wld_X5_urges cI cJ cZ h_p0 h_p1 ad_p0 ad_p1 p0_places p0_steps p0_coloured p0_closed p0_heeds p0_needs p0_placeKinds p0_stepKinds p0_takes p0_wants p1_many p1_things) H := hP
        have hD : va_D A (wld_X5_urges cI cJ cZ h_p0 h_p1 ad_p0 ad_p1 p0_places p0_steps p0_coloured p0_closed p0_heeds p0_needs p0_placeKinds p0_stepKinds p0_takes p0_wants p1_many p1_things) := hD
        refine lv_if_eq (tgt := 31) hx hb dX5_urges_26 (by decide) (fun c7 => ?_) (fun c8 => ?_)
        · have hw := hw.1 c7
          obtain ⟨x9, ex9⟩ : ∃ y : Int32, y = v2 + (1 : Int32) := ⟨_, rfl⟩
          have hw := hw x9 ex9
          refine lv_iinc (v := x9) (lv' := [(2, .int x9), (0, .ref h_p0), (1, .ref h_p1)]) hx hb dX5_urges_31 hl (k := 2) rfl (by rw [ex9]; rfl) (by decide) rfl (fun ls hl => ?_)
          refine lv_goto (tgt := 2) hx hb dX5_urges_34 (by decide) ?_
          exact ih _ hw _ _ _ hP hD hS (lv_sub hl [1, 2, 0] rfl)
        · have hw := hw.2 c8
          refine lv_iconst (v := 1) hx hb dX5_urges_29 (by decide) ?_
          exact x_zret (w1 := fun (u : Unit) => (wld_X5_urges cI cJ cZ h_p0 h_p1 ad_p0 ad_p1 p0_places p0_steps p0_coloured p0_closed p0_heeds p0_needs p0_placeKinds p0_stepKinds p0_takes p0_wants p1_many p1_things)) hx hb hr hlocks (by decide) () hw hP hD hS dX5_urges_30
set_option maxHeartbeats 4000000 in
set_option maxRecDepth 100000 in
theorem c_X5_urges {l : Launch} {dC : Nat → ClassId} {dI : Nat → Nat → Nat} {sz : Nat} {cI cJ cZ : ClassId} {h_p0 : Nat} {h_p1 : Nat} {ad_p0 : Nat → Nat} {ad_p1 : Nat → Nat} {p0_places : Int32} {p0_steps : Int32} {p0_coloured : Int32} {p0_closed : Nat → Int32} {p0_heeds : Nat → Int32} {p0_needs : Nat → Int32} {p0_placeKinds : Nat → Int32} {p0_stepKinds : Nat → Int32} {p0_takes : Nat → Int32} {p0_wants : Nat → Int32} {p1_many : Nat → Int32} {p1_things : Nat → Int64}  {post : Int32 → Prop} (hw : w_X5_urges p0_places p0_steps p0_closed p0_heeds p0_needs p0_placeKinds p0_stepKinds p0_takes p0_wants p1_many p1_things post) : Met l yX5_urges wsX5_urges ({ frames := 3, cells := 0, slots := 0, locals := 72 }) (va_Pc [.ref h_p0, .ref h_p1] (xPre (dC, dI) cI cJ cZ (wld_X5_urges cI cJ cZ h_p0 h_p1 ad_p0 ad_p1 p0_places p0_steps p0_coloured p0_closed p0_heeds p0_needs p0_placeKinds p0_stepKinds p0_takes p0_wants p1_many p1_things) sz)) (q_X5_urges dC dI cI cJ cZ h_p0 h_p1 ad_p0 ad_p1 p0_places p0_steps p0_coloured p0_closed p0_heeds p0_needs p0_placeKinds p0_stepKinds p0_takes p0_wants p1_many p1_things post (va_A (wld_X5_urges cI cJ cZ h_p0 h_p1 ad_p0 ad_p1 p0_places p0_steps p0_coloured p0_closed p0_heeds p0_needs p0_placeKinds p0_stepKinds p0_takes p0_wants p1_many p1_things) sz)) 0 0 (va_A (wld_X5_urges cI cJ cZ h_p0 h_p1 ad_p0 ad_p1 p0_places p0_steps p0_coloured p0_closed p0_heeds p0_needs p0_placeKinds p0_stepKinds p0_takes p0_wants p1_many p1_things) sz) := by
  refine x_met (cc := cX5_urges) (maxL := 3) (ret := (some .boolean)) (own := RX5) (Qc := fun A => (q_X5_urges dC dI cI cJ cZ h_p0 h_p1 ad_p0 ad_p1 p0_places p0_steps p0_coloured p0_closed p0_heeds p0_needs p0_placeKinds p0_stepKinds p0_takes p0_wants p1_many p1_things post A)) (by decide) rfl rfl (Nat.le_of_ble_eq_true rfl) ?_
  intro p e s m args below meth c A ls E0 hP hD hS hl
  obtain ⟨hx, hb, hr, hml, hown, hts, hlocks, hK, hA, n1, n2⟩ := id E0
  have iX3 : ∀ w ∈ u_ws RX3 TX3 2, w ∈ wsX5_urges := fun w h => List.mem_cons_of_mem _ (List.mem_append_right _ h)
  have iX5 : ∀ w ∈ u_ws RX5 TX5 14, w ∈ wsX5_urges := fun w h => List.mem_cons_of_mem _ (List.mem_append_left _ (List.mem_append_right _ h))
  have hS0 := hS
  have hl : lv_has ls 3 [(0, .ref h_p0), (1, .ref h_p1)] := hl
  unfold w_X5_urges at hw
  obtain ⟨H, hH⟩ : ∃ H, H = s.heap := ⟨_, rfl⟩
  have hS : va_S A s.heap H [] := by rw [hH]; exact hS
  have hP : va_P (dC, dI) vwCl (wld_X5_urges cI cJ cZ h_p0 h_p1 ad_p0 ad_p1 p0_places p0_steps p0_coloured p0_closed p0_heeds p0_needs p0_placeKinds p0_stepKinds p0_takes p0_wants p1_many p1_things) H := by rw [hH]; exact hP
  suffices hG : W p l e ({ frames := 3, cells := 0, slots := 0, locals := 72 }) s m args below meth c H [] 0 0 (MQ below (q_X5_urges dC dI cI cJ cZ h_p0 h_p1 ad_p0 ad_p1 p0_places p0_steps p0_coloured p0_closed p0_heeds p0_needs p0_placeKinds p0_stepKinds p0_takes p0_wants p1_many p1_things post A) args s 0 0 A) (F0 m 0 ls []) by rw [hH] at hG; exact hG
  clear hH
  refine lv_iconst (v := 0) hx hb dX5_urges_0 (by decide) ?_
  refine lv_istore_n (lv' := [(2, .int (0 : Int32)), (0, .ref h_p0), (1, .ref h_p1)]) hx hb dX5_urges_1 rfl hl (by decide) rfl (fun ls hl => ?_)
  obtain ⟨n10, hw⟩ := hw
  refine c_X5_urges_L2 (l := l)  E0 ?_ n10 _ hw _ _ _ hP hD hS (lv_sub hl [1, 2, 0] rfl)
  · intro v11 H locs ls hw hP hD hS hl
    have hP : va_P (dC, dI) vwCl (wld_X5_urges cI cJ cZ h_p0 h_p1 ad_p0 ad_p1 p0_places p0_steps p0_coloured p0_closed p0_heeds p0_needs p0_placeKinds p0_stepKinds p0_takes p0_wants p1_many p1_things) H := hP
    have hD : va_D A (wld_X5_urges cI cJ cZ h_p0 h_p1 ad_p0 ad_p1 p0_places p0_steps p0_coloured p0_closed p0_heeds p0_needs p0_placeKinds p0_stepKinds p0_takes p0_wants p1_many p1_things) := hD
    refine lv_iconst (v := 0) hx hb dX5_urges_37 (by decide) ?_
    exact x_zret (w1 := fun (u : Unit) => (wld_X5_urges cI cJ cZ h_p0 h_p1 ad_p0 ad_p1 p0_places p0_steps p0_coloured p0_closed p0_heeds p0_needs p0_placeKinds p0_stepKinds p0_takes p0_wants p1_many p1_things)) hx hb hr hlocks (by decide) () hw hP hD hS dX5_urges_38
