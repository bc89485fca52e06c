abbrev wld_X9_fault (cI cJ cZ : ClassId) (h_p0 : Nat) (ad_p0 : Nat → Nat) (p0_goings : Int32) (p0_latestFault : Int32) : va_W := [(h_p0, .inr (9, [.ref (ad_p0 0), .ref (ad_p0 1), .ref (ad_p0 2), .ref (ad_p0 3), .ref (ad_p0 4), .ref (ad_p0 5), .ref (ad_p0 6), .ref (ad_p0 7), .ref (ad_p0 8), .ref (ad_p0 9), .int p0_goings, .int p0_latestFault]))]
abbrev q_X9_fault (dC : Nat → ClassId) (dI : Nat → Nat → Nat) (cI cJ cZ : ClassId) (h_p0 : Nat) (ad_p0 : Nat → Nat) (p0_goings : Int32) (p0_latestFault : Int32) (post : Int32 → Prop) (A : Nat → Prop) : Array Value → State → Outcome → State → Prop := va_Qi (fun r (u : Unit) => post r ) (fun (u : Unit) t => xPost (dC, dI) A (wld_X9_fault cI cJ cZ h_p0 ad_p0 p0_goings p0_latestFault) t) A
def w_X9_fault (p0_latestFault : Int32) (post : Int32 → Prop) : Prop :=
  (post p0_latestFault)
set_option maxHeartbeats 4000000 in
set_option maxRecDepth 100000 in
theorem c_X9_fault {l : Launch} {dC : Nat → ClassId} {dI : Nat → Nat → Nat} {sz : Nat} {cI cJ cZ : ClassId} {h_p0 : Nat} {ad_p0 : Nat → Nat} {p0_goings : Int32} {p0_latestFault : Int32}  {post : Int32 → Prop} (hw : w_X9_fault p0_latestFault post) : Met l yX9_fault wsX9_fault ({ frames := 0, cells := 0, slots := 0, locals := 0 }) (va_Pc [.ref h_p0] (xPre (dC, dI) cI cJ cZ (wld_X9_fault cI cJ cZ h_p0 ad_p0 p0_goings p0_latestFault) sz)) (q_X9_fault dC dI cI cJ cZ h_p0 ad_p0 p0_goings p0_latestFault post (va_A (wld_X9_fault cI cJ cZ h_p0 ad_p0 p0_goings p0_latestFault) sz)) 0 0 (va_A (wld_X9_fault cI cJ cZ h_p0 ad_p0 p0_goings p0_latestFault) sz) := by
  refine x_met (cc := cX9_fault) (maxL := 1) (ret := (some .int)) (own := RX9) (Qc := fun A => (q_X9_fault dC dI cI cJ cZ h_p0 ad_p0 p0_goings p0_latestFault post A)) (by decide) rfl rfl (Nat.le_of_ble_eq_true rfl) ?_
  intro p e s m args below meth c A ls E0 hP hD hS hl
  obtain ⟨hx, hb, hr, hml, hown, hts, hlocks, hK, hA, n1, n2⟩ := id E0
  have iX9 : ∀ w ∈ u_ws RX9 TX9 12, w ∈ wsX9_fault := fun w h => List.mem_cons_of_mem _ (List.mem_append_right _ h)
  have hS0 := hS
  have hl : lv_has ls 1 [(0, .ref h_p0)] := hl
  unfold w_X9_fault at hw
  obtain ⟨H, hH⟩ : ∃ H, H = s.heap := ⟨_, rfl⟩
  have hS : va_S A s.heap H [] := by rw [hH]; exact hS
  have hP : va_P (dC, dI) vwCl (wld_X9_fault cI cJ cZ h_p0 ad_p0 p0_goings p0_latestFault) H := by rw [hH]; exact hP
  suffices hG : W p l e ({ frames := 0, cells := 0, slots := 0, locals := 0 }) s m args below meth c H [] 0 0 (MQ below (q_X9_fault dC dI cI cJ cZ h_p0 ad_p0 p0_goings p0_latestFault post A) args s 0 0 A) (F0 m 0 ls []) by rw [hH] at hG; exact hG
  clear hH
  refine lv_aload_n hx hb dX9_fault_0 rfl (lv_at hl 0 rfl) ?_
  refine va_get (D := (dC, dI)) (ci := 9) (v := .int p0_latestFault) (C := RX9) (T := TX9) (N := 12) hx hb hts iX9 hown hK hP 0 rfl rfl 11 (by decide) (hts (.fieldLink RX9 76 "NetHouse" "latestFault" "I") (by decide +kernel)) (fun _ h9 => h9) rfl dX9_fault_1 ?_
  exact x_iret (w1 := fun (u : Unit) => (wld_X9_fault cI cJ cZ h_p0 ad_p0 p0_goings p0_latestFault)) hx hb hr hlocks () hw hP hD hS dX9_fault_4
abbrev wld_X9_tree (cI cJ cZ : ClassId) (h_p0 : Nat) (ad_p0 : Nat → Nat) (ad_p0_growth : Nat → Nat) (ad_p0_growth_child : Nat → Nat) (ad_p0_growth_nodes : Nat → Nat) (ad_p0_net : Nat → Nat) (ad_p0_now : Nat → Nat) (n_p0_growth_nodes : Nat) (p0_goings : Int32) (p0_latestFault : Int32) (p0_growth_made : Int32) (p0_growth_endlessNode : Int32) (p0_growth_endlessBy : Int32) (p0_growth_nodes_width : Int32) (p0_growth_nodes_size : Int32) (p0_net_places : Int32) (p0_net_steps : Int32) (p0_net_coloured : Int32) (p0_growth_child_many : Nat → Int32) (p0_growth_child_things : Nat → Int64) (p0_growth_leaves : Nat → Int32) (p0_growth_nodes_by : Nat → Int32) (p0_growth_nodes_cells : Nat → Int32) (p0_growth_nodes_former : Nat → Int32) (p0_growth_nodes_heads : Nat → Int32) (p0_growth_nodes_links : Nat → Int32) (p0_net_closed : Nat → Int32) (p0_net_gifts : Nat → Int32) (p0_net_heeds : Nat → Int32) (p0_net_needs : Nat → Int32) (p0_net_placeKinds : Nat → Int32) (p0_net_puts : Nat → Int32) (p0_net_putsInto : Nat → Int32) (p0_net_stepKinds : Nat → Int32) (p0_net_takes : Nat → Int32) (p0_net_takesFrom : Nat → Int32) (p0_net_wants : Nat → Int32) (p0_now_many : Nat → Int32) : va_W := [(h_p0, .inr (9, [.ref (ad_p0 0), .ref (ad_p0 1), .ref (ad_p0 2), .ref (ad_p0 3), .ref (ad_p0 4), .ref (ad_p0 5), .ref (ad_p0 6), .ref (ad_p0 7), .ref (ad_p0 8), .ref (ad_p0 9), .int p0_goings, .int p0_latestFault])), ((ad_p0 6), .inr (8, [.ref (ad_p0_growth 0), .ref (ad_p0_growth 1), .ref (ad_p0_growth 2), .int p0_growth_made, .int p0_growth_endlessNode, .int p0_growth_endlessBy])), ((ad_p0_growth 1), .inr (3, [.ref (ad_p0_growth_child 0), .ref (ad_p0_growth_child 1)])), ((ad_p0_growth_child 0), .inl (cI, 16, .inl p0_growth_child_many)), ((ad_p0_growth_child 1), .inl (cJ, 16, .inr (.inl p0_growth_child_things))), ((ad_p0_growth 2), .inl (cI, 2000, .inl p0_growth_leaves)), ((ad_p0_growth 0), .inr (4, [.ref (ad_p0_growth_nodes 0), .ref (ad_p0_growth_nodes 1), .ref (ad_p0_growth_nodes 2), .ref (ad_p0_growth_nodes 3), .ref (ad_p0_growth_nodes 4), .int p0_growth_nodes_width, .int p0_growth_nodes_size])), ((ad_p0_growth_nodes 2), .inl (cI, n_p0_growth_nodes, .inl p0_growth_nodes_by)), ((ad_p0_growth_nodes 0), .inl (cI, (n_p0_growth_nodes * 16), .inl p0_growth_nodes_cells)), ((ad_p0_growth_nodes 1), .inl (cI, n_p0_growth_nodes, .inl p0_growth_nodes_former)), ((ad_p0_growth_nodes 4), .inl (cI, 1024, .inl p0_growth_nodes_heads)), ((ad_p0_growth_nodes 3), .inl (cI, n_p0_growth_nodes, .inl p0_growth_nodes_links)), ((ad_p0 0), .inr (5, [.ref (ad_p0_net 0), .ref (ad_p0_net 1), .ref (ad_p0_net 2), .ref (ad_p0_net 3), .ref (ad_p0_net 4), .ref (ad_p0_net 5), .ref (ad_p0_net 6), .ref (ad_p0_net 7), .ref (ad_p0_net 8), .ref (ad_p0_net 9), .ref (ad_p0_net 10), .int p0_net_places, .int p0_net_steps, .int p0_net_coloured])), ((ad_p0_net 5), .inl (cI, 256, .inl p0_net_closed)), ((ad_p0_net 7), .inl (cI, 256, .inl p0_net_gifts)), ((ad_p0_net 10), .inl (cI, 16, .inl p0_net_heeds)), ((ad_p0_net 4), .inl (cI, 256, .inl p0_net_needs)), ((ad_p0_net 0), .inl (cI, 16, .inl p0_net_placeKinds)), ((ad_p0_net 3), .inl (cI, 256, .inl p0_net_puts)), ((ad_p0_net 9), .inl (cI, 16, .inl p0_net_putsInto)), ((ad_p0_net 1), .inl (cI, 16, .inl p0_net_stepKinds)), ((ad_p0_net 2), .inl (cI, 256, .inl p0_net_takes)), ((ad_p0_net 8), .inl (cI, 16, .inl p0_net_takesFrom)), ((ad_p0_net 6), .inl (cI, 256, .inl p0_net_wants)), ((ad_p0 1), .inr (3, [.ref (ad_p0_now 0), .ref (ad_p0_now 1)])), ((ad_p0_now 0), .inl (cI, 16, .inl p0_now_many))]
abbrev q_X9_tree (dC : Nat → ClassId) (dI : Nat → Nat → Nat) (cI cJ cZ : ClassId) (h_p0 : Nat) (ad_p0 : Nat → Nat) (ad_p0_growth : Nat → Nat) (ad_p0_growth_child : Nat → Nat) (ad_p0_growth_nodes : Nat → Nat) (ad_p0_net : Nat → Nat) (ad_p0_now : Nat → Nat) (n_p0_growth_nodes : Nat) (p0_goings : Int32) (p0_latestFault : Int32) (p0_growth_made : Int32) (p0_growth_endlessNode : Int32) (p0_growth_endlessBy : Int32) (p0_growth_nodes_width : Int32) (p0_growth_nodes_size : Int32) (p0_net_places : Int32) (p0_net_steps : Int32) (p0_net_coloured : Int32) (p0_growth_child_many : Nat → Int32) (p0_growth_child_things : Nat → Int64) (p0_growth_leaves : Nat → Int32) (p0_growth_nodes_by : Nat → Int32) (p0_growth_nodes_cells : Nat → Int32) (p0_growth_nodes_former : Nat → Int32) (p0_growth_nodes_heads : Nat → Int32) (p0_growth_nodes_links : Nat → Int32) (p0_net_closed : Nat → Int32) (p0_net_gifts : Nat → Int32) (p0_net_heeds : Nat → Int32) (p0_net_needs : Nat → Int32) (p0_net_placeKinds : Nat → Int32) (p0_net_puts : Nat → Int32) (p0_net_putsInto : Nat → Int32) (p0_net_stepKinds : Nat → Int32) (p0_net_takes : Nat → Int32) (p0_net_takesFrom : Nat → Int32) (p0_net_wants : Nat → Int32) (p0_now_many : Nat → Int32) (post : Int32 → (Int32) → (Int32) → (Int32) → (Int32) → (Int32) → (Nat → Int32) → (Nat → Int64) → (Nat → Int32) → (Nat → Int32) → (Nat → Int32) → (Nat → Int32) → (Nat → Int32) → (Nat → Int32) → Prop) (A : Nat → Prop) : Array Value → State → Outcome → State → Prop := va_Qi (fun r (u : (Int32) × (Int32) × (Int32) × (Int32) × (Int32) × (Nat → Int32) × (Nat → Int64) × (Nat → Int32) × (Nat → Int32) × (Nat → Int32) × (Nat → Int32) × (Nat → Int32) × (Nat → Int32)) => post r (u.1) (u.2.1) (u.2.2.1) (u.2.2.2.1) (u.2.2.2.2.1) (u.2.2.2.2.2.1) (u.2.2.2.2.2.2.1) (u.2.2.2.2.2.2.2.1) (u.2.2.2.2.2.2.2.2.1) (u.2.2.2.2.2.2.2.2.2.1) (u.2.2.2.2.2.2.2.2.2.2.1) (u.2.2.2.2.2.2.2.2.2.2.2.1) (u.2.2.2.2.2.2.2.2.2.2.2.2)) (fun (u : (Int32) × (Int32) × (Int32) × (Int32) × (Int32) × (Nat → Int32) × (Nat → Int64) × (Nat → Int32) × (Nat → Int32) × (Nat → Int32) × (Nat → Int32) × (Nat → Int32) × (Nat → Int32)) t => xPost (dC, dI) A (wld_X9_tree cI cJ cZ h_p0 ad_p0 ad_p0_growth ad_p0_growth_child ad_p0_growth_nodes ad_p0_net ad_p0_now n_p0_growth_nodes p0_goings p0_latestFault (u.2.2.1) (u.2.1) (u.1) (u.2.2.2.2.1) (u.2.2.2.1) p0_net_places p0_net_steps p0_net_coloured (u.2.2.2.2.2.1) (u.2.2.2.2.2.2.1) (u.2.2.2.2.2.2.2.1) (u.2.2.2.2.2.2.2.2.1) (u.2.2.2.2.2.2.2.2.2.1) (u.2.2.2.2.2.2.2.2.2.2.1) (u.2.2.2.2.2.2.2.2.2.2.2.1) (u.2.2.2.2.2.2.2.2.2.2.2.2) p0_net_closed p0_net_gifts p0_net_heeds p0_net_needs p0_net_placeKinds p0_net_puts p0_net_putsInto p0_net_stepKinds p0_net_takes p0_net_takesFrom p0_net_wants p0_now_many) t) A
def w_X9_tree (n_p0_growth_nodes : Nat) (p0_growth_endlessBy : Int32) (p0_growth_endlessNode : Int32) (p0_growth_made : Int32) (p0_growth_nodes_size : Int32) (p0_growth_nodes_width : Int32) (p0_net_coloured : Int32) (p0_net_places : Int32) (p0_net_steps : Int32) (p0_growth_child_many : Nat → Int32) (p0_growth_child_things : Nat → Int64) (p0_growth_leaves : Nat → Int32) (p0_growth_nodes_by : Nat → Int32) (p0_growth_nodes_cells : Nat → Int32) (p0_growth_nodes_former : Nat → Int32) (p0_growth_nodes_heads : Nat → Int32) (p0_growth_nodes_links : Nat → Int32) (p0_net_closed : Nat → Int32) (p0_net_gifts : Nat → Int32) (p0_net_heeds : Nat → Int32) (p0_net_needs : Nat → Int32) (p0_net_placeKinds : Nat → Int32) (p0_net_puts : Nat → Int32) (p0_net_putsInto : Nat → Int32) (p0_net_stepKinds : Nat → Int32) (p0_net_takes : Nat → Int32) (p0_net_takesFrom : Nat → Int32) (p0_net_wants : Nat → Int32) (p0_now_many : Nat → Int32) (a1 : Int32) (post : Int32 → (Int32) → (Int32) → (Int32) → (Int32) → (Int32) → (Nat → Int32) → (Nat → Int64) → (Nat → Int32) → (Nat → Int32) → (Nat → Int32) → (Nat → Int32) → (Nat → Int32) → (Nat → Int32) → Prop) : Prop :=
  (a1 < (1 : Int32) →
    (post (-2000000001 : Int32) p0_growth_endlessBy p0_growth_endlessNode p0_growth_made p0_growth_nodes_size p0_growth_nodes_width p0_growth_child_many p0_growth_child_things p0_growth_leaves p0_growth_nodes_by p0_growth_nodes_cells p0_growth_nodes_former p0_growth_nodes_heads p0_growth_nodes_links)) ∧
  (¬ a1 < (1 : Int32) →
    (a1 ≤ (2000 : Int32) →
      (0 < p0_net_coloured →
        (post (-2000000002 : Int32) p0_growth_endlessBy p0_growth_endlessNode p0_growth_made p0_growth_nodes_size p0_growth_nodes_width p0_growth_child_many p0_growth_child_things p0_growth_leaves p0_growth_nodes_by p0_growth_nodes_cells p0_growth_nodes_former p0_growth_nodes_heads p0_growth_nodes_links)) ∧
      (¬ 0 < p0_net_coloured →
        w_X5_hasStepAbove p0_net_steps p0_net_stepKinds (1 : Int32) (fun r7 =>
        (r7 = 0 →
          w_X8_make n_p0_growth_nodes p0_growth_endlessBy p0_growth_endlessNode p0_growth_made p0_growth_nodes_size p0_growth_nodes_width p0_net_places p0_net_steps p0_growth_child_many p0_growth_child_things p0_growth_leaves p0_growth_nodes_by p0_growth_nodes_cells p0_growth_nodes_former p0_growth_nodes_heads p0_growth_nodes_links p0_net_closed p0_net_gifts p0_net_heeds p0_net_needs p0_net_placeKinds p0_net_puts p0_net_putsInto p0_net_takes p0_net_takesFrom p0_net_wants p0_now_many a1 (fun r10 y11 y12 y13 y14 y15 y16 y17 y18 y19 y20 y21 y22 y23 =>
          (r10 = 0 →
            (post (-2000000004 : Int32) y11 y12 y13 y14 y15 y16 y17 y18 y19 y20 y21 y22 y23)) ∧
          (¬ r10 = 0 →
            (post y14 y11 y12 y13 y14 y15 y16 y17 y18 y19 y20 y21 y22 y23)))) ∧
        (¬ r7 = 0 →
          (post (-2000000002 : Int32) p0_growth_endlessBy p0_growth_endlessNode p0_growth_made p0_growth_nodes_size p0_growth_nodes_width p0_growth_child_many p0_growth_child_things p0_growth_leaves p0_growth_nodes_by p0_growth_nodes_cells p0_growth_nodes_former p0_growth_nodes_heads p0_growth_nodes_links))))) ∧
    (¬ a1 ≤ (2000 : Int32) →
      (post (-2000000001 : Int32) p0_growth_endlessBy p0_growth_endlessNode p0_growth_made p0_growth_nodes_size p0_growth_nodes_width p0_growth_child_many p0_growth_child_things p0_growth_leaves p0_growth_nodes_by p0_growth_nodes_cells p0_growth_nodes_former p0_growth_nodes_heads p0_growth_nodes_links)))
set_option maxHeartbeats 4000000 in
set_option maxRecDepth 100000 in
theorem c_X9_tree {l : Launch} {dC : Nat → ClassId} {dI : Nat → Nat → Nat} {sz : Nat} {cI cJ cZ : ClassId} {h_p0 : Nat} {ad_p0 : Nat → Nat} {ad_p0_growth : Nat → Nat} {ad_p0_growth_child : Nat → Nat} {ad_p0_growth_nodes : Nat → Nat} {ad_p0_net : Nat → Nat} {ad_p0_now : Nat → Nat} {n_p0_growth_nodes : Nat} {p0_goings : Int32} {p0_latestFault : Int32} {p0_growth_made : Int32} {p0_growth_endlessNode : Int32} {p0_growth_endlessBy : Int32} {p0_growth_nodes_width : Int32} {p0_growth_nodes_size : Int32} {p0_net_places : Int32} {p0_net_steps : Int32} {p0_net_coloured : Int32} {p0_growth_child_many : Nat → Int32} {p0_growth_child_things : Nat → Int64} {p0_growth_leaves : Nat → Int32} {p0_growth_nodes_by : Nat → Int32} {p0_growth_nodes_cells : Nat → Int32} {p0_growth_nodes_former : Nat → Int32} {p0_growth_nodes_heads : Nat → Int32} {p0_growth_nodes_links : Nat → Int32} {p0_net_closed : Nat → Int32} {p0_net_gifts : Nat → Int32} {p0_net_heeds : Nat → Int32} {p0_net_needs : Nat → Int32} {p0_net_placeKinds : Nat → Int32} {p0_net_puts : Nat → Int32} {p0_net_putsInto : Nat → Int32} {p0_net_stepKinds : Nat → Int32} {p0_net_takes : Nat → Int32} {p0_net_takesFrom : Nat → Int32} {p0_net_wants : Nat → Int32} {p0_now_many : Nat → Int32} {a1 : Int32} {post : Int32 → (Int32) → (Int32) → (Int32) → (Int32) → (Int32) → (Nat → Int32) → (Nat → Int64) → (Nat → Int32) → (Nat → Int32) → (Nat → Int32) → (Nat → Int32) → (Nat → Int32) → (Nat → Int32) → Prop} (hw : w_X9_tree n_p0_growth_nodes p0_growth_endlessBy p0_growth_endlessNode p0_growth_made p0_growth_nodes_size p0_growth_nodes_width p0_net_coloured p0_net_places p0_net_steps p0_growth_child_many p0_growth_child_things p0_growth_leaves p0_growth_nodes_by p0_growth_nodes_cells p0_growth_nodes_former p0_growth_nodes_heads p0_growth_nodes_links p0_net_closed p0_net_gifts p0_net_heeds p0_net_needs p0_net_placeKinds p0_net_puts p0_net_putsInto p0_net_stepKinds p0_net_takes p0_net_takesFrom p0_net_wants p0_now_many a1 post) : Met l yX9_tree wsX9_tree ({ frames := 6, cells := 0, slots := 0, locals := 147 }) (va_Pc [.ref h_p0, .int a1] (xPre (dC, dI) cI cJ cZ (wld_X9_tree cI cJ cZ h_p0 ad_p0 ad_p0_growth ad_p0_growth_child ad_p0_growth_nodes ad_p0_net ad_p0_now n_p0_growth_nodes p0_goings p0_latestFault p0_growth_made p0_growth_endlessNode p0_growth_endlessBy p0_growth_nodes_width p0_growth_nodes_size p0_net_places p0_net_steps p0_net_coloured p0_growth_child_many p0_growth_child_things p0_growth_leaves p0_growth_nodes_by p0_growth_nodes_cells p0_growth_nodes_former p0_growth_nodes_heads p0_growth_nodes_links p0_net_closed p0_net_gifts p0_net_heeds p0_net_needs p0_net_placeKinds p0_net_puts p0_net_putsInto p0_net_stepKinds p0_net_takes p0_net_takesFrom p0_net_wants p0_now_many) sz)) (q_X9_tree dC dI cI cJ cZ h_p0 ad_p0 ad_p0_growth ad_p0_growth_child ad_p0_growth_nodes ad_p0_net ad_p0_now n_p0_growth_nodes p0_goings p0_latestFault p0_growth_made p0_growth_endlessNode p0_growth_endlessBy p0_growth_nodes_width p0_growth_nodes_size p0_net_places p0_net_steps p0_net_coloured p0_growth_child_many p0_growth_child_things p0_growth_leaves p0_growth_nodes_by p0_growth_nodes_cells p0_growth_nodes_former p0_growth_nodes_heads p0_growth_nodes_links p0_net_closed p0_net_gifts p0_net_heeds p0_net_needs p0_net_placeKinds p0_net_puts p0_net_putsInto p0_net_stepKinds p0_net_takes p0_net_takesFrom p0_net_wants p0_now_many post (va_A (wld_X9_tree cI cJ cZ h_p0 ad_p0 ad_p0_growth ad_p0_growth_child ad_p0_growth_nodes ad_p0_net ad_p0_now n_p0_growth_nodes p0_goings p0_latestFault p0_growth_made p0_growth_endlessNode p0_growth_endlessBy p0_growth_nodes_width p0_growth_nodes_size p0_net_places p0_net_steps p0_net_coloured p0_growth_child_many p0_growth_child_things p0_growth_leaves p0_growth_nodes_by p0_growth_nodes_cells p0_growth_nodes_former p0_growth_nodes_heads p0_growth_nodes_links p0_net_closed p0_net_gifts p0_net_heeds p0_net_needs p0_net_placeKinds p0_net_puts p0_net_putsInto p0_net_stepKinds p0_net_takes p0_net_takesFrom p0_net_wants p0_now_many) sz)) 0 0 (va_A (wld_X9_tree cI cJ cZ h_p0 ad_p0 ad_p0_growth ad_p0_growth_child ad_p0_growth_nodes ad_p0_net ad_p0_now n_p0_growth_nodes p0_goings p0_latestFault p0_growth_made p0_growth_endlessNode p0_growth_endlessBy p0_growth_nodes_width p0_growth_nodes_size p0_net_places p0_net_steps p0_net_coloured p0_growth_child_many p0_growth_child_things p0_growth_leaves p0_growth_nodes_by p0_growth_nodes_cells p0_growth_nodes_former p0_growth_nodes_heads p0_growth_nodes_links p0_net_closed p0_net_gifts p0_net_heeds p0_net_needs p0_net_placeKinds p0_net_puts p0_net_putsInto p0_net_stepKinds p0_net_takes p0_net_takesFrom p0_net_wants p0_now_many) sz) := by
  refine x_met (cc := cX9_tree) (maxL := 2) (ret := (some .int)) (own := RX9) (Qc := fun A => (q_X9_tree dC dI cI cJ cZ h_p0 ad_p0 ad_p0_growth ad_p0_growth_child ad_p0_growth_nodes ad_p0_net ad_p0_now n_p0_growth_nodes p0_goings p0_latestFault p0_growth_made p0_growth_endlessNode p0_growth_endlessBy p0_growth_nodes_width p0_growth_nodes_size p0_net_places p0_net_steps p0_net_coloured p0_growth_child_many p0_growth_child_things p0_growth_leaves p0_growth_nodes_by p0_growth_nodes_cells p0_growth_nodes_former p0_growth_nodes_heads p0_growth_nodes_links p0_net_closed p0_net_gifts p0_net_heeds p0_net_needs p0_net_placeKinds p0_net_puts p0_net_putsInto p0_net_stepKinds p0_net_takes p0_net_takesFrom p0_net_wants p0_now_many post A)) (by decide) rfl rfl (Nat.le_of_ble_eq_true rfl) ?_
  intro p e s m args below meth c A ls E0 hP hD hS hl
  obtain ⟨hx, hb, hr, hml, hown, hts, hlocks, hK, hA, n1, n2⟩ := id E0
  have iX3 : ∀ w ∈ u_ws RX3 TX3 2, w ∈ wsX9_tree := fun w h => List.mem_cons_of_mem _ (List.mem_append_right _ h)
  have iX4 : ∀ w ∈ u_ws RX4 TX4 7, w ∈ wsX9_tree := fun w h => List.mem_cons_of_mem _ (List.mem_append_left _ (List.mem_append_right _ h))
  have iX5 : ∀ w ∈ u_ws RX5 TX5 14, w ∈ wsX9_tree := fun w h => List.mem_cons_of_mem _ (List.mem_append_left _ (List.mem_append_left _ (List.mem_append_left _ (List.mem_append_right _ h))))
  have iX8 : ∀ w ∈ u_ws RX8 TX8 6, w ∈ wsX9_tree := fun w h => List.mem_cons_of_mem _ (List.mem_append_left _ (List.mem_append_left _ (List.mem_append_right _ h)))
  have iX9 : ∀ w ∈ u_ws RX9 TX9 12, w ∈ wsX9_tree := fun w h => List.mem_cons_of_mem _ (List.mem_append_left _ (List.mem_append_left _ (List.mem_append_left _ (List.mem_append_left _ (List.mem_append_right _ h)))))
  have hS0 := hS
  have hl : lv_has ls 2 [(0, .ref h_p0), (1, .int a1)] := hl
  unfold w_X9_tree at hw
  obtain ⟨H, hH⟩ : ∃ H, H = s.heap := ⟨_, rfl⟩
  have hS : va_S A s.heap H [] := by rw [hH]; exact hS
  have hP : va_P (dC, dI) vwCl (wld_X9_tree cI cJ cZ h_p0 ad_p0 ad_p0_growth ad_p0_growth_child ad_p0_growth_nodes ad_p0_net ad_p0_now n_p0_growth_nodes p0_goings p0_latestFault p0_growth_made p0_growth_endlessNode p0_growth_endlessBy p0_growth_nodes_width p0_growth_nodes_size p0_net_places p0_net_steps p0_net_coloured p0_growth_child_many p0_growth_child_things p0_growth_leaves p0_growth_nodes_by p0_growth_nodes_cells p0_growth_nodes_former p0_growth_nodes_heads p0_growth_nodes_links p0_net_closed p0_net_gifts p0_net_heeds p0_net_needs p0_net_placeKinds p0_net_puts p0_net_putsInto p0_net_stepKinds p0_net_takes p0_net_takesFrom p0_net_wants p0_now_many) H := by rw [hH]; exact hP
  suffices hG : W p l e ({ frames := 6, cells := 0, slots := 0, locals := 147 }) s m args below meth c H [] 0 0 (MQ below (q_X9_tree dC dI cI cJ cZ h_p0 ad_p0 ad_p0_growth ad_p0_growth_child ad_p0_growth_nodes ad_p0_net ad_p0_now n_p0_growth_nodes p0_goings p0_latestFault p0_growth_made p0_growth_endlessNode p0_growth_endlessBy p0_growth_nodes_width p0_growth_nodes_size p0_net_places p0_net_steps p0_net_coloured p0_growth_child_many p0_growth_child_things p0_growth_leaves p0_growth_nodes_by p0_growth_nodes_cells p0_growth_nodes_former p0_growth_nodes_heads p0_growth_nodes_links p0_net_closed p0_net_gifts p0_net_heeds p0_net_needs p0_net_placeKinds p0_net_puts p0_net_putsInto p0_net_stepKinds p0_net_takes p0_net_takesFrom p0_net_wants p0_now_many post A) args s 0 0 A) (F0 m 0 ls []) by rw [hH] at hG; exact hG
  clear hH
  refine lv_iload_n hx hb dX9_tree_0 rfl (lv_at hl 1 rfl) ?_
  refine lv_iconst (v := 1) hx hb dX9_tree_1 (by decide) ?_
  refine lv_icmp_lt (tgt := 12) hx hb dX9_tree_2 (by decide) (fun c1 => ?_) (fun c2 => ?_)
  · have hw := hw.1 c1
    refine lv_ldc (v := -2000000001) hx hb hown (hts (.constant RX9 79 (-2000000001)) (by decide +kernel)) dX9_tree_12 ?_
    exact x_iret (w1 := fun (u : (Int32) × (Int32) × (Int32) × (Int32) × (Int32) × (Nat → Int32) × (Nat → Int64) × (Nat → Int32) × (Nat → Int32) × (Nat → Int32) × (Nat → Int32) × (Nat → Int32) × (Nat → Int32)) => (wld_X9_tree cI cJ cZ h_p0 ad_p0 ad_p0_growth ad_p0_growth_child ad_p0_growth_nodes ad_p0_net ad_p0_now n_p0_growth_nodes p0_goings p0_latestFault (u.2.2.1) (u.2.1) (u.1) (u.2.2.2.2.1) (u.2.2.2.1) p0_net_places p0_net_steps p0_net_coloured (u.2.2.2.2.2.1) (u.2.2.2.2.2.2.1) (u.2.2.2.2.2.2.2.1) (u.2.2.2.2.2.2.2.2.1) (u.2.2.2.2.2.2.2.2.2.1) (u.2.2.2.2.2.2.2.2.2.2.1) (u.2.2.2.2.2.2.2.2.2.2.2.1) (u.2.2.2.2.2.2.2.2.2.2.2.2) p0_net_closed p0_net_gifts p0_net_heeds p0_net_needs p0_net_placeKinds p0_net_puts p0_net_putsInto p0_net_stepKinds p0_net_takes p0_net_takesFrom p0_net_wants p0_now_many)) hx hb hr hlocks (p0_growth_endlessBy, p0_growth_endlessNode, p0_growth_made, p0_growth_nodes_size, p0_growth_nodes_width, p0_growth_child_many, p0_growth_child_things, p0_growth_leaves, p0_growth_nodes_by, p0_growth_nodes_cells, p0_growth_nodes_former, p0_growth_nodes_heads, p0_growth_nodes_links) hw hP hD hS dX9_tree_14
  · have hw := hw.2 c2
    refine lv_iload_n hx hb dX9_tree_5 rfl (lv_at hl 1 rfl) ?_
    refine lv_sipush (v := 2000) hx hb dX9_tree_6 (by decide) ?_
    refine lv_icmp_le (tgt := 15) hx hb dX9_tree_9 (by decide) (fun c3 => ?_) (fun c4 => ?_)
    · have hw := hw.1 c3
      refine lv_aload_n hx hb dX9_tree_15 rfl (lv_at hl 0 rfl) ?_
      refine va_get (D := (dC, dI)) (ci := 9) (v := .ref (ad_p0 0)) (C := RX9) (T := TX9) (N := 12) hx hb hts iX9 hown hK hP 0 rfl rfl 0 (by decide) (hts (.fieldLink RX9 10 "NetHouse" "net" "LNetHouse$Net;") (by decide +kernel)) (fun _ h9 => h9) rfl dX9_tree_16 ?_
      refine va_get (D := (dC, dI)) (ci := 5) (v := .int p0_net_coloured) (C := RX5) (T := TX5) (N := 14) hx hb hts iX5 hown hK hP 12 rfl rfl 13 (by decide) (hts (.fieldLink RX9 233 "NetHouse$Net" "coloured" "I") (by decide +kernel)) (fun _ h9 => h9) rfl dX9_tree_19 ?_
      refine lv_if_gt (tgt := 36) hx hb dX9_tree_22 (by decide) (fun c5 => ?_) (fun c6 => ?_)
      · have hw := hw.1 c5
        refine lv_ldc (v := -2000000002) hx hb hown (hts (.constant RX9 113 (-2000000002)) (by decide +kernel)) dX9_tree_36 ?_
        exact x_iret (w1 := fun (u : (Int32) × (Int32) × (Int32) × (Int32) × (Int32) × (Nat → Int32) × (Nat → Int64) × (Nat → Int32) × (Nat → Int32) × (Nat → Int32) × (Nat → Int32) × (Nat → Int32) × (Nat → Int32)) => (wld_X9_tree cI cJ cZ h_p0 ad_p0 ad_p0_growth ad_p0_growth_child ad_p0_growth_nodes ad_p0_net ad_p0_now n_p0_growth_nodes p0_goings p0_latestFault (u.2.2.1) (u.2.1) (u.1) (u.2.2.2.2.1) (u.2.2.2.1) p0_net_places p0_net_steps p0_net_coloured (u.2.2.2.2.2.1) (u.2.2.2.2.2.2.1) (u.2.2.2.2.2.2.2.1) (u.2.2.2.2.2.2.2.2.1) (u.2.2.2.2.2.2.2.2.2.1) (u.2.2.2.2.2.2.2.2.2.2.1) (u.2.2.2.2.2.2.2.2.2.2.2.1) (u.2.2.2.2.2.2.2.2.2.2.2.2) p0_net_closed p0_net_gifts p0_net_heeds p0_net_needs p0_net_placeKinds p0_net_puts p0_net_putsInto p0_net_stepKinds p0_net_takes p0_net_takesFrom p0_net_wants p0_now_many)) hx hb hr hlocks (p0_growth_endlessBy, p0_growth_endlessNode, p0_growth_made, p0_growth_nodes_size, p0_growth_nodes_width, p0_growth_child_many, p0_growth_child_things, p0_growth_leaves, p0_growth_nodes_by, p0_growth_nodes_cells, p0_growth_nodes_former, p0_growth_nodes_heads, p0_growth_nodes_links) hw hP hD hS dX9_tree_38
      · have hw := hw.2 c6
        refine lv_aload_n hx hb dX9_tree_25 rfl (lv_at hl 0 rfl) ?_
        refine va_get (D := (dC, dI)) (ci := 9) (v := .ref (ad_p0 0)) (C := RX9) (T := TX9) (N := 12) hx hb hts iX9 hown hK hP 0 rfl rfl 0 (by decide) (hts (.fieldLink RX9 10 "NetHouse" "net" "LNetHouse$Net;") (by decide +kernel)) (fun _ h9 => h9) rfl dX9_tree_26 ?_
        refine lv_iconst (v := 1) hx hb dX9_tree_29 (by decide) ?_
        obtain ⟨hPc, hDc⟩ := x_sub (wc := (wld_X5_hasStepAbove cI cJ cZ (ad_p0 0) ad_p0_net p0_net_places p0_net_steps p0_net_coloured p0_net_stepKinds)) hP hD [12, 20] (n := 26) rfl rfl (by decide +kernel)
        refine x_calli (ws' := fun (u : Unit) => (wld_X9_tree cI cJ cZ h_p0 ad_p0 ad_p0_growth ad_p0_growth_child ad_p0_growth_nodes ad_p0_net ad_p0_now n_p0_growth_nodes p0_goings p0_latestFault p0_growth_made p0_growth_endlessNode p0_growth_endlessBy p0_growth_nodes_width p0_growth_nodes_size p0_net_places p0_net_steps p0_net_coloured p0_growth_child_many p0_growth_child_things p0_growth_leaves p0_growth_nodes_by p0_growth_nodes_cells p0_growth_nodes_former p0_growth_nodes_heads p0_growth_nodes_links p0_net_closed p0_net_gifts p0_net_heeds p0_net_needs p0_net_placeKinds p0_net_puts p0_net_putsInto p0_net_stepKinds p0_net_takes p0_net_takesFrom p0_net_wants p0_now_many)) hP hD hS hA [12, 20] [0, 1, 2, 3, 4, 5, 6, 7, 8, 9, 10, 11, 13, 14, 15, 16, 17, 18, 19, 21, 22, 23, 24, 25] [0, 1, 2, 3, 4, 5, 6, 7, 8, 9, 10, 11, 24, 12, 13, 14, 15, 16, 17, 18, 25, 19, 20, 21, 22, 23] (n := 26) (k := 2) rfl (fun _ => rfl) rfl (by decide +kernel) (fun _ => rfl) (va_runV (As := [.int (1 : Int32)]) (rest := []) ⟨hx, hb, hml, hown, hts⟩ (c_X5_hasStepAbove (l := l) (dC := dC) (dI := dI) (cI := cI) (cJ := cJ) (cZ := cZ) (sz := H.size) (h_p0 := (ad_p0 0)) (ad_p0 := ad_p0_net) (p0_places := p0_net_places) (p0_steps := p0_net_steps) (p0_coloured := p0_net_coloured) (p0_stepKinds := p0_net_stepKinds) hw) (cwV 1 hts gX9_tree_X5_hasStepAbove rfl rfl rfl (by decide +kernel) ⟨Nat.le_of_ble_eq_true rfl, Nat.le_of_ble_eq_true rfl⟩) ⟨xPre_blind, va_recv hK hP (ci := 5) (q0 := 12) rfl rfl, xPre_at hK hPc hDc n1 n2⟩ rfl rfl hl.1 rfl (lv_room (Nat.le_of_ble_eq_true rfl)) dX9_tree_30 ⟨Nat.zero_le _, Nat.zero_le _⟩) (fun r7 u H locs hw hP hD hS => ?_)
        try dsimp only at hw
        have hP : va_P (dC, dI) vwCl (wld_X9_tree cI cJ cZ h_p0 ad_p0 ad_p0_growth ad_p0_growth_child ad_p0_growth_nodes ad_p0_net ad_p0_now n_p0_growth_nodes p0_goings p0_latestFault p0_growth_made p0_growth_endlessNode p0_growth_endlessBy p0_growth_nodes_width p0_growth_nodes_size p0_net_places p0_net_steps p0_net_coloured p0_growth_child_many p0_growth_child_things p0_growth_leaves p0_growth_nodes_by p0_growth_nodes_cells p0_growth_nodes_former p0_growth_nodes_heads p0_growth_nodes_links p0_net_closed p0_net_gifts p0_net_heeds p0_net_needs p0_net_placeKinds p0_net_puts p0_net_putsInto p0_net_stepKinds p0_net_takes p0_net_takesFrom p0_net_wants p0_now_many) H := hP
        have hD : va_D A (wld_X9_tree cI cJ cZ h_p0 ad_p0 ad_p0_growth ad_p0_growth_child ad_p0_growth_nodes ad_p0_net ad_p0_now n_p0_growth_nodes p0_goings p0_latestFault p0_growth_made p0_growth_endlessNode p0_growth_endlessBy p0_growth_nodes_width p0_growth_nodes_size p0_net_places p0_net_steps p0_net_coloured p0_growth_child_many p0_growth_child_things p0_growth_leaves p0_growth_nodes_by p0_growth_nodes_cells p0_growth_nodes_former p0_growth_nodes_heads p0_growth_nodes_links p0_net_closed p0_net_gifts p0_net_heeds p0_net_needs p0_net_placeKinds p0_net_puts p0_net_putsInto p0_net_stepKinds p0_net_takes p0_net_takesFrom p0_net_wants p0_now_many) := hD
        refine lv_if_eq (tgt := 39) hx hb dX9_tree_33 (by decide) (fun c8 => ?_) (fun c9 => ?_)
        · have hw := hw.1 c8
          refine lv_aload_n hx hb dX9_tree_39 rfl (lv_at hl 0 rfl) ?_
          refine va_get (D := (dC, dI)) (ci := 9) (v := .ref (ad_p0 6)) (C := RX9) (T := TX9) (N := 12) hx hb hts iX9 hown hK hP 0 rfl rfl 6 (by decide) (hts (.fieldLink RX9 50 "NetHouse" "growth" "LNetHouse$Tree;") (by decide +kernel)) (fun _ h9 => h9) rfl dX9_tree_40 ?_
          refine lv_aload_n hx hb dX9_tree_43 rfl (lv_at hl 0 rfl) ?_
          refine va_get (D := (dC, dI)) (ci := 9) (v := .ref (ad_p0 0)) (C := RX9) (T := TX9) (N := 12) hx hb hts iX9 hown hK hP 0 rfl rfl 0 (by decide) (hts (.fieldLink RX9 10 "NetHouse" "net" "LNetHouse$Net;") (by decide +kernel)) (fun _ h9 => h9) rfl dX9_tree_44 ?_
          refine lv_aload_n hx hb dX9_tree_47 rfl (lv_at hl 0 rfl) ?_
          refine va_get (D := (dC, dI)) (ci := 9) (v := .ref (ad_p0 1)) (C := RX9) (T := TX9) (N := 12) hx hb hts iX9 hown hK hP 0 rfl rfl 1 (by decide) (hts (.fieldLink RX9 19 "NetHouse" "now" "LNetHouse$Holding;") (by decide +kernel)) (fun _ h9 => h9) rfl dX9_tree_48 ?_
          refine lv_iload_n hx hb dX9_tree_51 rfl (lv_at hl 1 rfl) ?_
          obtain ⟨hPc, hDc⟩ := x_sub (wc := (wld_X8_make cI cJ cZ (ad_p0 6) (ad_p0 0) (ad_p0 1) ad_p0_growth ad_p0_growth_child ad_p0_growth_nodes ad_p0_net ad_p0_now n_p0_growth_nodes p0_growth_made p0_growth_endlessNode p0_growth_endlessBy p0_growth_nodes_width p0_growth_nodes_size p0_net_places p0_net_steps p0_net_coloured p0_growth_child_many p0_growth_child_things p0_growth_leaves p0_growth_nodes_by p0_growth_nodes_cells p0_growth_nodes_former p0_growth_nodes_heads p0_growth_nodes_links p0_net_closed p0_net_gifts p0_net_heeds p0_net_needs p0_net_placeKinds p0_net_puts p0_net_putsInto p0_net_takes p0_net_takesFrom p0_net_wants p0_now_many)) hP hD [1, 2, 3, 4, 5, 6, 7, 8, 9, 10, 11, 12, 13, 14, 15, 16, 17, 18, 19, 21, 22, 23, 24, 25] (n := 26) rfl rfl (by decide +kernel)
          refine x_calli (ws' := fun (u : (Int32) × (Int32) × (Int32) × (Int32) × (Int32) × (Nat → Int32) × (Nat → Int64) × (Nat → Int32) × (Nat → Int32) × (Nat → Int32) × (Nat → Int32) × (Nat → Int32) × (Nat → Int32)) => (wld_X9_tree cI cJ cZ h_p0 ad_p0 ad_p0_growth ad_p0_growth_child ad_p0_growth_nodes ad_p0_net ad_p0_now n_p0_growth_nodes p0_goings p0_latestFault (u.2.2.1) (u.2.1) (u.1) (u.2.2.2.2.1) (u.2.2.2.1) p0_net_places p0_net_steps p0_net_coloured (u.2.2.2.2.2.1) (u.2.2.2.2.2.2.1) (u.2.2.2.2.2.2.2.1) (u.2.2.2.2.2.2.2.2.1) (u.2.2.2.2.2.2.2.2.2.1) (u.2.2.2.2.2.2.2.2.2.2.1) (u.2.2.2.2.2.2.2.2.2.2.2.1) (u.2.2.2.2.2.2.2.2.2.2.2.2) p0_net_closed p0_net_gifts p0_net_heeds p0_net_needs p0_net_placeKinds p0_net_puts p0_net_putsInto p0_net_stepKinds p0_net_takes p0_net_takesFrom p0_net_wants p0_now_many)) hP hD hS hA [1, 2, 3, 4, 5, 6, 7, 8, 9, 10, 11, 12, 13, 14, 15, 16, 17, 18, 19, 21, 22, 23, 24, 25] [0, 20] [0, 2, 3, 4, 5, 6, 7, 8, 9, 10, 11, 12, 13, 14, 15, 16, 17, 18, 19, 20, 1, 21, 22, 23, 24, 25] (n := 26) (k := 24) rfl (fun _ => rfl) rfl (by decide +kernel) (fun _ => rfl) (va_runV (As := [.ref (ad_p0 0), .ref (ad_p0 1), .int a1]) (rest := []) ⟨hx, hb, hml, hown, hts⟩ (c_X8_make (l := l) (dC := dC) (dI := dI) (cI := cI) (cJ := cJ) (cZ := cZ) (sz := H.size) (h_p0 := (ad_p0 6)) (h_p1 := (ad_p0 0)) (h_p2 := (ad_p0 1)) (ad_p0 := ad_p0_growth) (ad_p0_child := ad_p0_growth_child) (ad_p0_nodes := ad_p0_growth_nodes) (ad_p1 := ad_p0_net) (ad_p2 := ad_p0_now) (n_p0_nodes := n_p0_growth_nodes) (p0_made := p0_growth_made) (p0_endlessNode := p0_growth_endlessNode) (p0_endlessBy := p0_growth_endlessBy) (p0_nodes_width := p0_growth_nodes_width) (p0_nodes_size := p0_growth_nodes_size) (p1_places := p0_net_places) (p1_steps := p0_net_steps) (p1_coloured := p0_net_coloured) (p0_child_many := p0_growth_child_many) (p0_child_things := p0_growth_child_things) (p0_leaves := p0_growth_leaves) (p0_nodes_by := p0_growth_nodes_by) (p0_nodes_cells := p0_growth_nodes_cells) (p0_nodes_former := p0_growth_nodes_former) (p0_nodes_heads := p0_growth_nodes_heads) (p0_nodes_links := p0_growth_nodes_links) (p1_closed := p0_net_closed) (p1_gifts := p0_net_gifts) (p1_heeds := p0_net_heeds) (p1_needs := p0_net_needs) (p1_placeKinds := p0_net_placeKinds) (p1_puts := p0_net_puts) (p1_putsInto := p0_net_putsInto) (p1_takes := p0_net_takes) (p1_takesFrom := p0_net_takesFrom) (p1_wants := p0_net_wants) (p2_many := p0_now_many) hw) (cwV 3 hts gX9_tree_X8_make rfl rfl rfl (by decide +kernel) ⟨Nat.le_of_ble_eq_true rfl, Nat.le_of_ble_eq_true rfl⟩) ⟨xPre_blind, va_recv hK hP (ci := 8) (q0 := 1) rfl rfl, xPre_at hK hPc hDc n1 n2⟩ rfl rfl hl.1 rfl (lv_room (Nat.le_of_ble_eq_true rfl)) dX9_tree_52 ⟨Nat.zero_le _, Nat.zero_le _⟩) (fun r10 u H locs hw hP hD hS => ?_)
          obtain ⟨y11, y12, y13, y14, y15, y16, y17, y18, y19, y20, y21, y22, y23⟩ := u
          try dsimp only at hw
          have hP : va_P (dC, dI) vwCl (wld_X9_tree cI cJ cZ h_p0 ad_p0 ad_p0_growth ad_p0_growth_child ad_p0_growth_nodes ad_p0_net ad_p0_now n_p0_growth_nodes p0_goings p0_latestFault y13 y12 y11 y15 y14 p0_net_places p0_net_steps p0_net_coloured y16 y17 y18 y19 y20 y21 y22 y23 p0_net_closed p0_net_gifts p0_net_heeds p0_net_needs p0_net_placeKinds p0_net_puts p0_net_putsInto p0_net_stepKinds p0_net_takes p0_net_takesFrom p0_net_wants p0_now_many) H := hP
          have hD : va_D A (wld_X9_tree cI cJ cZ h_p0 ad_p0 ad_p0_growth ad_p0_growth_child ad_p0_growth_nodes ad_p0_net ad_p0_now n_p0_growth_nodes p0_goings p0_latestFault y13 y12 y11 y15 y14 p0_net_places p0_net_steps p0_net_coloured y16 y17 y18 y19 y20 y21 y22 y23 p0_net_closed p0_net_gifts p0_net_heeds p0_net_needs p0_net_placeKinds p0_net_puts p0_net_putsInto p0_net_stepKinds p0_net_takes p0_net_takesFrom p0_net_wants p0_now_many) := hD
          refine lv_if_eq (tgt := 71) hx hb dX9_tree_55 (by decide) (fun c24 => ?_) (fun c25 => ?_)
          · have hw := hw.1 c24
            refine lv_ldc (v := -2000000004) hx hb hown (hts (.constant RX9 255 (-2000000004)) (by decide +kernel)) dX9_tree_71 ?_
            exact x_iret (w1 := fun (u : (Int32) × (Int32) × (Int32) × (Int32) × (Int32) × (Nat → Int32) × (Nat → Int64) × (Nat → Int32) × (Nat → Int32) × (Nat → Int32) × (Nat → Int32) × (Nat → Int32) × (Nat → Int32)) => (wld_X9_tree cI cJ cZ h_p0 ad_p0 ad_p0_growth ad_p0_growth_child ad_p0_growth_nodes ad_p0_net ad_p0_now n_p0_growth_nodes p0_goings p0_latestFault (u.2.2.1) (u.2.1) (u.1) (u.2.2.2.2.1) (u.2.2.2.1) p0_net_places p0_net_steps p0_net_coloured (u.2.2.2.2.2.1) (u.2.2.2.2.2.2.1) (u.2.2.2.2.2.2.2.1) (u.2.2.2.2.2.2.2.2.1) (u.2.2.2.2.2.2.2.2.2.1) (u.2.2.2.2.2.2.2.2.2.2.1) (u.2.2.2.2.2.2.2.2.2.2.2.1) (u.2.2.2.2.2.2.2.2.2.2.2.2) p0_net_closed p0_net_gifts p0_net_heeds p0_net_needs p0_net_placeKinds p0_net_puts p0_net_putsInto p0_net_stepKinds p0_net_takes p0_net_takesFrom p0_net_wants p0_now_many)) hx hb hr hlocks (y11, y12, y13, y14, y15, y16, y17, y18, y19, y20, y21, y22, y23) hw hP hD hS dX9_tree_73
          · have hw := hw.2 c25
            refine lv_aload_n hx hb dX9_tree_58 rfl (lv_at hl 0 rfl) ?_
            refine va_get (D := (dC, dI)) (ci := 9) (v := .ref (ad_p0 6)) (C := RX9) (T := TX9) (N := 12) hx hb hts iX9 hown hK hP 0 rfl rfl 6 (by decide) (hts (.fieldLink RX9 50 "NetHouse" "growth" "LNetHouse$Tree;") (by decide +kernel)) (fun _ h9 => h9) rfl dX9_tree_59 ?_
            refine va_get (D := (dC, dI)) (ci := 8) (v := .ref (ad_p0_growth 0)) (C := RX8) (T := TX8) (N := 6) hx hb hts iX8 hown hK hP 1 rfl rfl 0 (by decide) (hts (.fieldLink RX9 303 "NetHouse$Tree" "nodes" "LNetHouse$Markings;") (by decide +kernel)) (fun _ h9 => h9) rfl dX9_tree_62 ?_
            refine va_get (D := (dC, dI)) (ci := 4) (v := .int y14) (C := RX4) (T := TX4) (N := 7) hx hb hts iX4 hown hK hP 6 rfl rfl 6 (by decide) (hts (.fieldLink RX9 252 "NetHouse$Markings" "size" "I") (by decide +kernel)) (fun _ h9 => h9) rfl dX9_tree_65 ?_
            refine lv_goto (tgt := 73) hx hb dX9_tree_68 (by decide) ?_
            exact x_iret (w1 := fun (u : (Int32) × (Int32) × (Int32) × (Int32) × (Int32) × (Nat → Int32) × (Nat → Int64) × (Nat → Int32) × (Nat → Int32) × (Nat → Int32) × (Nat → Int32) × (Nat → Int32) × (Nat → Int32)) => (wld_X9_tree cI cJ cZ h_p0 ad_p0 ad_p0_growth ad_p0_growth_child ad_p0_growth_nodes ad_p0_net ad_p0_now n_p0_growth_nodes p0_goings p0_latestFault (u.2.2.1) (u.2.1) (u.1) (u.2.2.2.2.1) (u.2.2.2.1) p0_net_places p0_net_steps p0_net_coloured (u.2.2.2.2.2.1) (u.2.2.2.2.2.2.1) (u.2.2.2.2.2.2.2.1) (u.2.2.2.2.2.2.2.2.1) (u.2.2.2.2.2.2.2.2.2.1) (u.2.2.2.2.2.2.2.2.2.2.1) (u.2.2.2.2.2.2.2.2.2.2.2.1) (u.2.2.2.2.2.2.2.2.2.2.2.2) p0_net_closed p0_net_gifts p0_net_heeds p0_net_needs p0_net_placeKinds p0_net_puts p0_net_putsInto p0_net_stepKinds p0_net_takes p0_net_takesFrom p0_net_wants p0_now_many)) hx hb hr hlocks (y11, y12, y13, y14, y15, y16, y17, y18, y19, y20, y21, y22, y23) hw hP hD hS dX9_tree_73
        · have hw := hw.2 c9
          refine lv_ldc (v := -2000000002) hx hb hown (hts (.constant RX9 113 (-2000000002)) (by decide +kernel)) dX9_tree_36 ?_
          exact x_iret (w1 := fun (u : (Int32) × (Int32) × (Int32) × (Int32) × (Int32) × (Nat → Int32) × (Nat → Int64) × (Nat → Int32) × (Nat → Int32) × (Nat → Int32) × (Nat → Int32) × (Nat → Int32) × (Nat → Int32)) => (wld_X9_tree cI cJ cZ h_p0 ad_p0 ad_p0_growth ad_p0_growth_child ad_p0_growth_nodes ad_p0_net ad_p0_now n_p0_growth_nodes p0_goings p0_latestFault (u.2.2.1) (u.2.1) (u.1) (u.2.2.2.2.1) (u.2.2.2.1) p0_net_places p0_net_steps p0_net_coloured (u.2.2.2.2.2.1) (u.2.2.2.2.2.2.1) (u.2.2.2.2.2.2.2.1) (u.2.2.2.2.2.2.2.2.1) (u.2.2.2.2.2.2.2.2.2.1) (u.2.2.2.2.2.2.2.2.2.2.1) (u.2.2.2.2.2.2.2.2.2.2.2.1) (u.2.2.2.2.2.2.2.2.2.2.2.2) p0_net_closed p0_net_gifts p0_net_heeds p0_net_needs p0_net_placeKinds p0_net_puts p0_net_putsInto p0_net_stepKinds p0_net_takes p0_net_takesFrom p0_net_wants p0_now_many)) hx hb hr hlocks (p0_growth_endlessBy, p0_growth_endlessNode, p0_growth_made, p0_growth_nodes_size, p0_growth_nodes_width, p0_growth_child_many, p0_growth_child_things, p0_growth_leaves, p0_growth_nodes_by, p0_growth_nodes_cells, p0_growth_nodes_former, p0_growth_nodes_heads, p0_growth_nodes_links) hw hP hD hS dX9_tree_38
    · have hw := hw.2 c4
      refine lv_ldc (v := -2000000001) hx hb hown (hts (.constant RX9 79 (-2000000001)) (by decide +kernel)) dX9_tree_12 ?_
      exact x_iret (w1 := fun (u : (Int32) × (Int32) × (Int32) × (Int32) × (Int32) × (Nat → Int32) × (Nat → Int64) × (Nat → Int32) × (Nat → Int32) × (Nat → Int32) × (Nat → Int32) × (Nat → Int32) × (Nat → Int32)) => (wld_X9_tree cI cJ cZ h_p0 ad_p0 ad_p0_growth ad_p0_growth_child ad_p0_growth_nodes ad_p0_net ad_p0_now n_p0_growth_nodes p0_goings p0_latestFault (u.2.2.1) (u.2.1) (u.1) (u.2.2.2.2.1) (u.2.2.2.1) p0_net_places p0_net_steps p0_net_coloured (u.2.2.2.2.2.1) (u.2.2.2.2.2.2.1) (u.2.2.2.2.2.2.2.1) (u.2.2.2.2.2.2.2.2.1) (u.2.2.2.2.2.2.2.2.2.1) (u.2.2.2.2.2.2.2.2.2.2.1) (u.2.2.2.2.2.2.2.2.2.2.2.1) (u.2.2.2.2.2.2.2.2.2.2.2.2) p0_net_closed p0_net_gifts p0_net_heeds p0_net_needs p0_net_placeKinds p0_net_puts p0_net_putsInto p0_net_stepKinds p0_net_takes p0_net_takesFrom p0_net_wants p0_now_many)) hx hb hr hlocks (p0_growth_endlessBy, p0_growth_endlessNode, p0_growth_made, p0_growth_nodes_size, p0_growth_nodes_width, p0_growth_child_many, p0_growth_child_things, p0_growth_leaves, p0_growth_nodes_by, p0_growth_nodes_cells, p0_growth_nodes_former, p0_growth_nodes_heads, p0_growth_nodes_links) hw hP hD hS dX9_tree_14
abbrev wld_X9_asTold (cI cJ cZ : ClassId) : va_W := []
abbrev q_X9_asTold (dC : Nat → ClassId) (dI : Nat → Nat → Nat) (cI cJ cZ : ClassId) (post : Int32 → Prop) (A : Nat → Prop) : Array Value → State → Outcome → State → Prop := va_Qi (fun r (u : Unit) => post r ) (fun (u : Unit) t => xPost (dC, dI) A (wld_X9_asTold cI cJ cZ) t) A
def w_X9_asTold (a0 : Int32) (post : Int32 → Prop) : Prop :=
  (¬ a0 = (2147483647 : Int32) →
    (post a0)) ∧
  (a0 = (2147483647 : Int32) →
    (post (-2000000006 : Int32)))
set_option maxHeartbeats 4000000 in
set_option maxRecDepth 100000 in
theorem c_X9_asTold {l : Launch} {dC : Nat → ClassId} {dI : Nat → Nat → Nat} {sz : Nat} {cI cJ cZ : ClassId} {a0 : Int32} {post : Int32 → Prop} (hw : w_X9_asTold a0 post) : Met l yX9_asTold wsX9_asTold ({ frames := 0, cells := 0, slots := 0, locals := 0 }) (va_Pc [.int a0] (xPre (dC, dI) cI cJ cZ (wld_X9_asTold cI cJ cZ) sz)) (q_X9_asTold dC dI cI cJ cZ post (va_A (wld_X9_asTold cI cJ cZ) sz)) 0 0 (va_A (wld_X9_asTold cI cJ cZ) sz) := by
  refine x_met (cc := cX9_asTold) (maxL := 1) (ret := (some .int)) (own := RX9) (Qc := fun A => (q_X9_asTold dC dI cI cJ cZ post A)) (by decide) rfl rfl (Nat.le_of_ble_eq_true rfl) ?_
  intro p e s m args below meth c A ls E0 hP hD hS hl
  obtain ⟨hx, hb, hr, hml, hown, hts, hlocks, hK, hA, n1, n2⟩ := id E0
  have hS0 := hS
  have hl : lv_has ls 1 [(0, .int a0)] := hl
  unfold w_X9_asTold at hw
  obtain ⟨H, hH⟩ : ∃ H, H = s.heap := ⟨_, rfl⟩
  have hS : va_S A s.heap H [] := by rw [hH]; exact hS
  have hP : va_P (dC, dI) vwCl (wld_X9_asTold cI cJ cZ) H := by rw [hH]; exact hP
  suffices hG : W p l e ({ frames := 0, cells := 0, slots := 0, locals := 0 }) s m args below meth c H [] 0 0 (MQ below (q_X9_asTold dC dI cI cJ cZ post A) args s 0 0 A) (F0 m 0 ls []) by rw [hH] at hG; exact hG
  clear hH
  refine lv_iload_n hx hb dX9_asTold_0 rfl (lv_at hl 0 rfl) ?_
  refine lv_ldcw (v := 2147483647) hx hb hown (hts (.constant RX9 386 (2147483647)) (by decide +kernel)) dX9_asTold_1 ?_
  refine lv_icmp_ne (tgt := 13) hx hb dX9_asTold_4 (by decide) (fun c1 => ?_) (fun c2 => ?_)
  · have hw := hw.1 c1
    refine lv_iload_n hx hb dX9_asTold_13 rfl (lv_at hl 0 rfl) ?_
    exact x_iret (w1 := fun (u : Unit) => (wld_X9_asTold cI cJ cZ)) hx hb hr hlocks () hw hP hD hS dX9_asTold_14
  · have hw := hw.2 c2
    refine lv_ldcw (v := -2000000006) hx hb hown (hts (.constant RX9 387 (-2000000006)) (by decide +kernel)) dX9_asTold_7 ?_
    refine lv_goto (tgt := 14) hx hb dX9_asTold_10 (by decide) ?_
    exact x_iret (w1 := fun (u : Unit) => (wld_X9_asTold cI cJ cZ)) hx hb hr hlocks () hw hP hD hS dX9_asTold_14
abbrev wld_X9_node (cI cJ cZ : ClassId) (h_p0 : Nat) (ad_p0 : Nat → Nat) (ad_p0_growth : Nat → Nat) (ad_p0_growth_nodes : Nat → Nat) (ad_p0_net : Nat → Nat) (n_p0_growth_nodes : Nat) (p0_goings : Int32) (p0_latestFault : Int32) (p0_growth_made : Int32) (p0_growth_endlessNode : Int32) (p0_growth_endlessBy : Int32) (p0_growth_nodes_width : Int32) (p0_growth_nodes_size : Int32) (p0_net_places : Int32) (p0_net_steps : Int32) (p0_net_coloured : Int32) (p0_growth_nodes_cells : Nat → Int32) : va_W := [(h_p0, .inr (9, [.ref (ad_p0 0), .ref (ad_p0 1), .ref (ad_p0 2), .ref (ad_p0 3), .ref (ad_p0 4), .ref (ad_p0 5), .ref (ad_p0 6), .ref (ad_p0 7), .ref (ad_p0 8), .ref (ad_p0 9), .int p0_goings, .int p0_latestFault])), ((ad_p0 6), .inr (8, [.ref (ad_p0_growth 0), .ref (ad_p0_growth 1), .ref (ad_p0_growth 2), .int p0_growth_made, .int p0_growth_endlessNode, .int p0_growth_endlessBy])), ((ad_p0_growth 0), .inr (4, [.ref (ad_p0_growth_nodes 0), .ref (ad_p0_growth_nodes 1), .ref (ad_p0_growth_nodes 2), .ref (ad_p0_growth_nodes 3), .ref (ad_p0_growth_nodes 4), .int p0_growth_nodes_width, .int p0_growth_nodes_size])), ((ad_p0_growth_nodes 0), .inl (cI, (n_p0_growth_nodes * 16), .inl p0_growth_nodes_cells)), ((ad_p0 0), .inr (5, [.ref (ad_p0_net 0), .ref (ad_p0_net 1), .ref (ad_p0_net 2), .ref (ad_p0_net 3), .ref (ad_p0_net 4), .ref (ad_p0_net 5), .ref (ad_p0_net 6), .ref (ad_p0_net 7), .ref (ad_p0_net 8), .ref (ad_p0_net 9), .ref (ad_p0_net 10), .int p0_net_places, .int p0_net_steps, .int p0_net_coloured]))]
abbrev q_X9_node (dC : Nat → ClassId) (dI : Nat → Nat → Nat) (cI cJ cZ : ClassId) (h_p0 : Nat) (ad_p0 : Nat → Nat) (ad_p0_growth : Nat → Nat) (ad_p0_growth_nodes : Nat → Nat) (ad_p0_net : Nat → Nat) (n_p0_growth_nodes : Nat) (p0_goings : Int32) (p0_latestFault : Int32) (p0_growth_made : Int32) (p0_growth_endlessNode : Int32) (p0_growth_endlessBy : Int32) (p0_growth_nodes_width : Int32) (p0_growth_nodes_size : Int32) (p0_net_places : Int32) (p0_net_steps : Int32) (p0_net_coloured : Int32) (p0_growth_nodes_cells : Nat → Int32) (post : Int32 → Prop) (A : Nat → Prop) : Array Value → State → Outcome → State → Prop := va_Qi (fun r (u : Unit) => post r ) (fun (u : Unit) t => xPost (dC, dI) A (wld_X9_node cI cJ cZ h_p0 ad_p0 ad_p0_growth ad_p0_growth_nodes ad_p0_net n_p0_growth_nodes p0_goings p0_latestFault p0_growth_made p0_growth_endlessNode p0_growth_endlessBy p0_growth_nodes_width p0_growth_nodes_size p0_net_places p0_net_steps p0_net_coloured p0_growth_nodes_cells) t) A
def w_X9_node (n_p0_growth_nodes : Nat) (p0_growth_made : Int32) (p0_growth_nodes_size : Int32) (p0_growth_nodes_width : Int32) (p0_net_places : Int32) (p0_growth_nodes_cells : Nat → Int32) (a1 : Int32) (a2 : Int32) (post : Int32 → Prop) : Prop :=
  w_X5_hasPlace p0_net_places a2 (fun r1 =>
  (¬ r1 = 0 →
    w_X8_refusal p0_growth_made p0_growth_nodes_size a1 (fun r4 =>
    (r4 = 0 →
      w_X4_cellAt n_p0_growth_nodes p0_growth_nodes_width p0_growth_nodes_cells a1 a2 (fun r7 =>
      w_X9_asTold r7 (fun r8 =>
      (post r8)))) ∧
    (¬ r4 = 0 →
      (post r4)))) ∧
  (r1 = 0 →
    (post (-2000000001 : Int32))))
set_option maxHeartbeats 4000000 in
set_option maxRecDepth 100000 in
theorem c_X9_node {l : Launch} {dC : Nat → ClassId} {dI : Nat → Nat → Nat} {sz : Nat} {cI cJ cZ : ClassId} {h_p0 : Nat} {ad_p0 : Nat → Nat} {ad_p0_growth : Nat → Nat} {ad_p0_growth_nodes : Nat → Nat} {ad_p0_net : Nat → Nat} {n_p0_growth_nodes : Nat} {p0_goings : Int32} {p0_latestFault : Int32} {p0_growth_made : Int32} {p0_growth_endlessNode : Int32} {p0_growth_endlessBy : Int32} {p0_growth_nodes_width : Int32} {p0_growth_nodes_size : Int32} {p0_net_places : Int32} {p0_net_steps : Int32} {p0_net_coloured : Int32} {p0_growth_nodes_cells : Nat → Int32} {a1 : Int32} {a2 : Int32} {post : Int32 → Prop} (hw : w_X9_node n_p0_growth_nodes p0_growth_made p0_growth_nodes_size p0_growth_nodes_width p0_net_places p0_growth_nodes_cells a1 a2 post) : Met l yX9_node wsX9_node ({ frames := 1, cells := 0, slots := 0, locals := 22 }) (va_Pc [.ref h_p0, .int a1, .int a2] (xPre (dC, dI) cI cJ cZ (wld_X9_node cI cJ cZ h_p0 ad_p0 ad_p0_growth ad_p0_growth_nodes ad_p0_net n_p0_growth_nodes p0_goings p0_latestFault p0_growth_made p0_growth_endlessNode p0_growth_endlessBy p0_growth_nodes_width p0_growth_nodes_size p0_net_places p0_net_steps p0_net_coloured p0_growth_nodes_cells) sz)) (q_X9_node dC dI cI cJ cZ h_p0 ad_p0 ad_p0_growth ad_p0_growth_nodes ad_p0_net n_p0_growth_nodes p0_goings p0_latestFault p0_growth_made p0_growth_endlessNode p0_growth_endlessBy p0_growth_nodes_width p0_growth_nodes_size p0_net_places p0_net_steps p0_net_coloured p0_growth_nodes_cells post (va_A (wld_X9_node cI cJ cZ h_p0 ad_p0 ad_p0_growth ad_p0_growth_nodes ad_p0_net n_p0_growth_nodes p0_goings p0_latestFault p0_growth_made p0_growth_endlessNode p0_growth_endlessBy p0_growth_nodes_width p0_growth_nodes_size p0_net_places p0_net_steps p0_net_coloured p0_growth_nodes_cells) sz)) 0 0 (va_A (wld_X9_node cI cJ cZ h_p0 ad_p0 ad_p0_growth ad_p0_growth_nodes ad_p0_net n_p0_growth_nodes p0_goings p0_latestFault p0_growth_made p0_growth_endlessNode p0_growth_endlessBy p0_growth_nodes_width p0_growth_nodes_size p0_net_places p0_net_steps p0_net_coloured p0_growth_nodes_cells) sz) := by
  refine x_met (cc := cX9_node) (maxL := 4) (ret := (some .int)) (own := RX9) (Qc := fun A => (q_X9_node dC dI cI cJ cZ h_p0 ad_p0 ad_p0_growth ad_p0_growth_nodes ad_p0_net n_p0_growth_nodes p0_goings p0_latestFault p0_growth_made p0_growth_endlessNode p0_growth_endlessBy p0_growth_nodes_width p0_growth_nodes_size p0_net_places p0_net_steps p0_net_coloured p0_growth_nodes_cells post A)) (by decide) rfl rfl (Nat.le_of_ble_eq_true rfl) ?_
  intro p e s m args below meth c A ls E0 hP hD hS hl
  obtain ⟨hx, hb, hr, hml, hown, hts, hlocks, hK, hA, n1, n2⟩ := id E0
  have iX4 : ∀ w ∈ u_ws RX4 TX4 7, w ∈ wsX9_node := fun w h => List.mem_cons_of_mem _ (List.mem_append_right _ h)
  have iX5 : ∀ w ∈ u_ws RX5 TX5 14, w ∈ wsX9_node := fun w h => List.mem_cons_of_mem _ (List.mem_append_left _ (List.mem_append_right _ h))
  have iX8 : ∀ w ∈ u_ws RX8 TX8 6, w ∈ wsX9_node := fun w h => List.mem_cons_of_mem _ (List.mem_append_left _ (List.mem_append_left _ (List.mem_append_right _ h)))
  have iX9 : ∀ w ∈ u_ws RX9 TX9 12, w ∈ wsX9_node := fun w h => List.mem_cons_of_mem _ (List.mem_append_left _ (List.mem_append_left _ (List.mem_append_left _ (List.mem_append_right _ h))))
  have hS0 := hS
  have hl : lv_has ls 4 [(0, .ref h_p0), (1, .int a1), (2, .int a2)] := hl
  unfold w_X9_node at hw
  obtain ⟨H, hH⟩ : ∃ H, H = s.heap := ⟨_, rfl⟩
  have hS : va_S A s.heap H [] := by rw [hH]; exact hS
  have hP : va_P (dC, dI) vwCl (wld_X9_node cI cJ cZ h_p0 ad_p0 ad_p0_growth ad_p0_growth_nodes ad_p0_net n_p0_growth_nodes p0_goings p0_latestFault p0_growth_made p0_growth_endlessNode p0_growth_endlessBy p0_growth_nodes_width p0_growth_nodes_size p0_net_places p0_net_steps p0_net_coloured p0_growth_nodes_cells) H := by rw [hH]; exact hP
  suffices hG : W p l e ({ frames := 1, cells := 0, slots := 0, locals := 22 }) s m args below meth c H [] 0 0 (MQ below (q_X9_node dC dI cI cJ cZ h_p0 ad_p0 ad_p0_growth ad_p0_growth_nodes ad_p0_net n_p0_growth_nodes p0_goings p0_latestFault p0_growth_made p0_growth_endlessNode p0_growth_endlessBy p0_growth_nodes_width p0_growth_nodes_size p0_net_places p0_net_steps p0_net_coloured p0_growth_nodes_cells post A) args s 0 0 A) (F0 m 0 ls []) by rw [hH] at hG; exact hG
  clear hH
  refine lv_aload_n hx hb dX9_node_0 rfl (lv_at hl 0 rfl) ?_
  refine va_get (D := (dC, dI)) (ci := 9) (v := .ref (ad_p0 0)) (C := RX9) (T := TX9) (N := 12) hx hb hts iX9 hown hK hP 0 rfl rfl 0 (by decide) (hts (.fieldLink RX9 10 "NetHouse" "net" "LNetHouse$Net;") (by decide +kernel)) (fun _ h9 => h9) rfl dX9_node_1 ?_
  refine lv_iload_n hx hb dX9_node_4 rfl (lv_at hl 2 rfl) ?_
  obtain ⟨hPc, hDc⟩ := x_sub (wc := (wld_X5_hasPlace cI cJ cZ (ad_p0 0) ad_p0_net p0_net_places p0_net_steps p0_net_coloured)) hP hD [4] (n := 5) rfl rfl (by decide +kernel)
  refine x_calli (ws' := fun (u : Unit) => (wld_X9_node cI cJ cZ h_p0 ad_p0 ad_p0_growth ad_p0_growth_nodes ad_p0_net n_p0_growth_nodes p0_goings p0_latestFault p0_growth_made p0_growth_endlessNode p0_growth_endlessBy p0_growth_nodes_width p0_growth_nodes_size p0_net_places p0_net_steps p0_net_coloured p0_growth_nodes_cells)) hP hD hS hA [4] [0, 1, 2, 3] [0, 1, 2, 3, 4] (n := 5) (k := 1) rfl (fun _ => rfl) rfl (by decide +kernel) (fun _ => rfl) (va_runV (As := [.int a2]) (rest := []) ⟨hx, hb, hml, hown, hts⟩ (c_X5_hasPlace (l := l) (dC := dC) (dI := dI) (cI := cI) (cJ := cJ) (cZ := cZ) (sz := H.size) (h_p0 := (ad_p0 0)) (ad_p0 := ad_p0_net) (p0_places := p0_net_places) (p0_steps := p0_net_steps) (p0_coloured := p0_net_coloured) hw) (cwV 1 hts gX9_node_X5_hasPlace rfl rfl rfl (by decide +kernel) ⟨Nat.le_of_ble_eq_true rfl, Nat.le_of_ble_eq_true rfl⟩) ⟨xPre_blind, va_recv hK hP (ci := 5) (q0 := 4) rfl rfl, xPre_at hK hPc hDc n1 n2⟩ rfl rfl hl.1 rfl (lv_room (Nat.le_of_ble_eq_true rfl)) dX9_node_5 ⟨Nat.zero_le _, Nat.zero_le _⟩) (fun r1 u H locs hw hP hD hS => ?_)
  try dsimp only at hw
  have hP : va_P (dC, dI) vwCl (wld_X9_node cI cJ cZ h_p0 ad_p0 ad_p0_growth ad_p0_growth_nodes ad_p0_net n_p0_growth_nodes p0_goings p0_latestFault p0_growth_made p0_growth_endlessNode p0_growth_endlessBy p0_growth_nodes_width p0_growth_nodes_size p0_net_places p0_net_steps p0_net_coloured p0_growth_nodes_cells) H := hP
  have hD : va_D A (wld_X9_node cI cJ cZ h_p0 ad_p0 ad_p0_growth ad_p0_growth_nodes ad_p0_net n_p0_growth_nodes p0_goings p0_latestFault p0_growth_made p0_growth_endlessNode p0_growth_endlessBy p0_growth_nodes_width p0_growth_nodes_size p0_net_places p0_net_steps p0_net_coloured p0_growth_nodes_cells) := hD
  refine lv_if_ne (tgt := 14) hx hb dX9_node_8 (by decide) (fun c2 => ?_) (fun c3 => ?_)
  · have hw := hw.1 c2
    refine lv_aload_n hx hb dX9_node_14 rfl (lv_at hl 0 rfl) ?_
    refine va_get (D := (dC, dI)) (ci := 9) (v := .ref (ad_p0 6)) (C := RX9) (T := TX9) (N := 12) hx hb hts iX9 hown hK hP 0 rfl rfl 6 (by decide) (hts (.fieldLink RX9 50 "NetHouse" "growth" "LNetHouse$Tree;") (by decide +kernel)) (fun _ h9 => h9) rfl dX9_node_15 ?_
    refine lv_iload_n hx hb dX9_node_18 rfl (lv_at hl 1 rfl) ?_
    obtain ⟨hPc, hDc⟩ := x_sub (wc := (wld_X8_refusal cI cJ cZ (ad_p0 6) ad_p0_growth ad_p0_growth_nodes p0_growth_made p0_growth_endlessNode p0_growth_endlessBy p0_growth_nodes_width p0_growth_nodes_size)) hP hD [1, 2] (n := 5) rfl rfl (by decide +kernel)
    refine x_calli (ws' := fun (u : Unit) => (wld_X9_node cI cJ cZ h_p0 ad_p0 ad_p0_growth ad_p0_growth_nodes ad_p0_net n_p0_growth_nodes p0_goings p0_latestFault p0_growth_made p0_growth_endlessNode p0_growth_endlessBy p0_growth_nodes_width p0_growth_nodes_size p0_net_places p0_net_steps p0_net_coloured p0_growth_nodes_cells)) hP hD hS hA [1, 2] [0, 3, 4] [0, 3, 4, 1, 2] (n := 5) (k := 2) rfl (fun _ => rfl) rfl (by decide +kernel) (fun _ => rfl) (va_runV (As := [.int a1]) (rest := []) ⟨hx, hb, hml, hown, hts⟩ (c_X8_refusal (l := l) (dC := dC) (dI := dI) (cI := cI) (cJ := cJ) (cZ := cZ) (sz := H.size) (h_p0 := (ad_p0 6)) (ad_p0 := ad_p0_growth) (ad_p0_nodes := ad_p0_growth_nodes) (p0_made := p0_growth_made) (p0_endlessNode := p0_growth_endlessNode) (p0_endlessBy := p0_growth_endlessBy) (p0_nodes_width := p0_growth_nodes_width) (p0_nodes_size := p0_growth_nodes_size) hw) (cwV 1 hts gX9_node_X8_refusal rfl rfl rfl (by decide +kernel) ⟨Nat.le_of_ble_eq_true rfl, Nat.le_of_ble_eq_true rfl⟩) ⟨xPre_blind, va_recv hK hP (ci := 8) (q0 := 1) rfl rfl, xPre_at hK hPc hDc n1 n2⟩ rfl rfl hl.1 rfl (lv_room (Nat.le_of_ble_eq_true rfl)) dX9_node_19 ⟨Nat.zero_le _, Nat.zero_le _⟩) (fun r4 u H locs hw hP hD hS => ?_)
    try dsimp only at hw
    have hP : va_P (dC, dI) vwCl (wld_X9_node cI cJ cZ h_p0 ad_p0 ad_p0_growth ad_p0_growth_nodes ad_p0_net n_p0_growth_nodes p0_goings p0_latestFault p0_growth_made p0_growth_endlessNode p0_growth_endlessBy p0_growth_nodes_width p0_growth_nodes_size p0_net_places p0_net_steps p0_net_coloured p0_growth_nodes_cells) H := hP
    have hD : va_D A (wld_X9_node cI cJ cZ h_p0 ad_p0 ad_p0_growth ad_p0_growth_nodes ad_p0_net n_p0_growth_nodes p0_goings p0_latestFault p0_growth_made p0_growth_endlessNode p0_growth_endlessBy p0_growth_nodes_width p0_growth_nodes_size p0_net_places p0_net_steps p0_net_coloured p0_growth_nodes_cells) := hD
    refine lv_istore_n (lv' := [(3, .int r4), (0, .ref h_p0), (1, .int a1), (2, .int a2)]) hx hb dX9_node_22 rfl hl (by decide) rfl (fun ls hl => ?_)
    refine lv_iload_n hx hb dX9_node_23 rfl (lv_at hl 0 rfl) ?_
    refine lv_if_eq (tgt := 31) hx hb dX9_node_24 (by decide) (fun c5 => ?_) (fun c6 => ?_)
    · have hw := hw.1 c5
      refine lv_aload_n hx hb dX9_node_31 rfl (lv_at hl 1 rfl) ?_
      refine va_get (D := (dC, dI)) (ci := 9) (v := .ref (ad_p0 6)) (C := RX9) (T := TX9) (N := 12) hx hb hts iX9 hown hK hP 0 rfl rfl 6 (by decide) (hts (.fieldLink RX9 50 "NetHouse" "growth" "LNetHouse$Tree;") (by decide +kernel)) (fun _ h9 => h9) rfl dX9_node_32 ?_
      refine va_get (D := (dC, dI)) (ci := 8) (v := .ref (ad_p0_growth 0)) (C := RX8) (T := TX8) (N := 6) hx hb hts iX8 hown hK hP 1 rfl rfl 0 (by decide) (hts (.fieldLink RX9 303 "NetHouse$Tree" "nodes" "LNetHouse$Markings;") (by decide +kernel)) (fun _ h9 => h9) rfl dX9_node_35 ?_
      refine lv_iload_n hx hb dX9_node_38 rfl (lv_at hl 2 rfl) ?_
      refine lv_iload_n hx hb dX9_node_39 rfl (lv_at hl 3 rfl) ?_
      obtain ⟨hPc, hDc⟩ := x_sub (wc := (wld_X4_cellAt cI cJ cZ (ad_p0_growth 0) ad_p0_growth_nodes n_p0_growth_nodes p0_growth_nodes_width p0_growth_nodes_size p0_growth_nodes_cells)) hP hD [2, 3] (n := 5) rfl rfl (by decide +kernel)
      refine x_calli (ws' := fun (u : Unit) => (wld_X9_node cI cJ cZ h_p0 ad_p0 ad_p0_growth ad_p0_growth_nodes ad_p0_net n_p0_growth_nodes p0_goings p0_latestFault p0_growth_made p0_growth_endlessNode p0_growth_endlessBy p0_growth_nodes_width p0_growth_nodes_size p0_net_places p0_net_steps p0_net_coloured p0_growth_nodes_cells)) hP hD hS hA [2, 3] [0, 1, 4] [0, 1, 3, 4, 2] (n := 5) (k := 2) rfl (fun _ => rfl) rfl (by decide +kernel) (fun _ => rfl) (va_runV (As := [.int a1, .int a2]) (rest := []) ⟨hx, hb, hml, hown, hts⟩ (c_X4_cellAt (l := l) (dC := dC) (dI := dI) (cI := cI) (cJ := cJ) (cZ := cZ) (sz := H.size) (h_p0 := (ad_p0_growth 0)) (ad_p0 := ad_p0_growth_nodes) (n_p0 := n_p0_growth_nodes) (p0_width := p0_growth_nodes_width) (p0_size := p0_growth_nodes_size) (p0_cells := p0_growth_nodes_cells) hw) (cwV 2 hts gX9_node_X4_cellAt rfl rfl rfl (by decide +kernel) ⟨Nat.le_of_ble_eq_true rfl, Nat.le_of_ble_eq_true rfl⟩) ⟨xPre_blind, va_recv hK hP (ci := 4) (q0 := 2) rfl rfl, xPre_at hK hPc hDc n1 n2⟩ rfl rfl hl.1 rfl (lv_room (Nat.le_of_ble_eq_true rfl)) dX9_node_40 ⟨Nat.zero_le _, Nat.zero_le _⟩) (fun r7 u H locs hw hP hD hS => ?_)
      try dsimp only at hw
      have hP : va_P (dC, dI) vwCl (wld_X9_node cI cJ cZ h_p0 ad_p0 ad_p0_growth ad_p0_growth_nodes ad_p0_net n_p0_growth_nodes p0_goings p0_latestFault p0_growth_made p0_growth_endlessNode p0_growth_endlessBy p0_growth_nodes_width p0_growth_nodes_size p0_net_places p0_net_steps p0_net_coloured p0_growth_nodes_cells) H := hP
      have hD : va_D A (wld_X9_node cI cJ cZ h_p0 ad_p0 ad_p0_growth ad_p0_growth_nodes ad_p0_net n_p0_growth_nodes p0_goings p0_latestFault p0_growth_made p0_growth_endlessNode p0_growth_endlessBy p0_growth_nodes_width p0_growth_nodes_size p0_net_places p0_net_steps p0_net_coloured p0_growth_nodes_cells) := hD
      obtain ⟨hPc, hDc⟩ := x_sub (wc := (wld_X9_asTold cI cJ cZ )) hP hD [] (n := 5) rfl rfl (by decide +kernel)
      refine x_calli (ws' := fun (u : Unit) => (wld_X9_node cI cJ cZ h_p0 ad_p0 ad_p0_growth ad_p0_growth_nodes ad_p0_net n_p0_growth_nodes p0_goings p0_latestFault p0_growth_made p0_growth_endlessNode p0_growth_endlessBy p0_growth_nodes_width p0_growth_nodes_size p0_net_places p0_net_steps p0_net_coloured p0_growth_nodes_cells)) hP hD hS hA [] [0, 1, 2, 3, 4] [0, 1, 2, 3, 4] (n := 5) (k := 0) rfl (fun _ => rfl) rfl (by decide +kernel) (fun _ => rfl) (va_runS (As := [.int r7]) (rest := []) ⟨hx, hb, hml, hown, hts⟩ (c_X9_asTold (l := l) (dC := dC) (dI := dI) (cI := cI) (cJ := cJ) (cZ := cZ) (sz := H.size) hw) (va_cwS 1 hts gX9_node_X9_asTold rfl rfl rfl (by decide +kernel) ⟨Nat.le_of_ble_eq_true rfl, Nat.le_of_ble_eq_true rfl⟩) ⟨xPre_blind, xPre_at hK hPc hDc n1 n2⟩ rfl rfl hl.1 rfl (lv_room (Nat.le_of_ble_eq_true rfl)) dX9_node_43 ⟨Nat.zero_le _, Nat.zero_le _⟩) (fun r8 u H locs hw hP hD hS => ?_)
      try dsimp only at hw
      have hP : va_P (dC, dI) vwCl (wld_X9_node cI cJ cZ h_p0 ad_p0 ad_p0_growth ad_p0_growth_nodes ad_p0_net n_p0_growth_nodes p0_goings p0_latestFault p0_growth_made p0_growth_endlessNode p0_growth_endlessBy p0_growth_nodes_width p0_growth_nodes_size p0_net_places p0_net_steps p0_net_coloured p0_growth_nodes_cells) H := hP
      have hD : va_D A (wld_X9_node cI cJ cZ h_p0 ad_p0 ad_p0_growth ad_p0_growth_nodes ad_p0_net n_p0_growth_nodes p0_goings p0_latestFault p0_growth_made p0_growth_endlessNode p0_growth_endlessBy p0_growth_nodes_width p0_growth_nodes_size p0_net_places p0_net_steps p0_net_coloured p0_growth_nodes_cells) := hD
      exact x_iret (w1 := fun (u : Unit) => (wld_X9_node cI cJ cZ h_p0 ad_p0 ad_p0_growth ad_p0_growth_nodes ad_p0_net n_p0_growth_nodes p0_goings p0_latestFault p0_growth_made p0_growth_endlessNode p0_growth_endlessBy p0_growth_nodes_width p0_growth_nodes_size p0_net_places p0_net_steps p0_net_coloured p0_growth_nodes_cells)) hx hb hr hlocks () hw hP hD hS dX9_node_46
    · have hw := hw.2 c6
      refine lv_iload_n hx hb dX9_node_27 rfl (lv_at hl 0 rfl) ?_
      refine lv_goto (tgt := 46) hx hb dX9_node_28 (by decide) ?_
      exact x_iret (w1 := fun (u : Unit) => (wld_X9_node cI cJ cZ h_p0 ad_p0 ad_p0_growth ad_p0_growth_nodes ad_p0_net n_p0_growth_nodes p0_goings p0_latestFault p0_growth_made p0_growth_endlessNode p0_growth_endlessBy p0_growth_nodes_width p0_growth_nodes_size p0_net_places p0_net_steps p0_net_coloured p0_growth_nodes_cells)) hx hb hr hlocks () hw hP hD hS dX9_node_46
  · have hw := hw.2 c3
    refine lv_ldc (v := -2000000001) hx hb hown (hts (.constant RX9 79 (-2000000001)) (by decide +kernel)) dX9_node_11 ?_
    exact x_iret (w1 := fun (u : Unit) => (wld_X9_node cI cJ cZ h_p0 ad_p0 ad_p0_growth ad_p0_growth_nodes ad_p0_net n_p0_growth_nodes p0_goings p0_latestFault p0_growth_made p0_growth_endlessNode p0_growth_endlessBy p0_growth_nodes_width p0_growth_nodes_size p0_net_places p0_net_steps p0_net_coloured p0_growth_nodes_cells)) hx hb hr hlocks () hw hP hD hS dX9_node_13
abbrev wld_X9_above (cI cJ cZ : ClassId) (h_p0 : Nat) (ad_p0 : Nat → Nat) (ad_p0_growth : Nat → Nat) (ad_p0_growth_nodes : Nat → Nat) (n_p0_growth_nodes : Nat) (p0_goings : Int32) (p0_latestFault : Int32) (p0_growth_made : Int32) (p0_growth_endlessNode : Int32) (p0_growth_endlessBy : Int32) (p0_growth_nodes_width : Int32) (p0_growth_nodes_size : Int32) (p0_growth_leaves : Nat → Int32) (p0_growth_nodes_by : Nat → Int32) (p0_growth_nodes_former : Nat → Int32) : va_W := [(h_p0, .inr (9, [.ref (ad_p0 0), .ref (ad_p0 1), .ref (ad_p0 2), .ref (ad_p0 3), .ref (ad_p0 4), .ref (ad_p0 5), .ref (ad_p0 6), .ref (ad_p0 7), .ref (ad_p0 8), .ref (ad_p0 9), .int p0_goings, .int p0_latestFault])), ((ad_p0 6), .inr (8, [.ref (ad_p0_growth 0), .ref (ad_p0_growth 1), .ref (ad_p0_growth 2), .int p0_growth_made, .int p0_growth_endlessNode, .int p0_growth_endlessBy])), ((ad_p0_growth 2), .inl (cI, 2000, .inl p0_growth_leaves)), ((ad_p0_growth 0), .inr (4, [.ref (ad_p0_growth_nodes 0), .ref (ad_p0_growth_nodes 1), .ref (ad_p0_growth_nodes 2), .ref (ad_p0_growth_nodes 3), .ref (ad_p0_growth_nodes 4), .int p0_growth_nodes_width, .int p0_growth_nodes_size])), ((ad_p0_growth_nodes 2), .inl (cI, n_p0_growth_nodes, .inl p0_growth_nodes_by)), ((ad_p0_growth_nodes 1), .inl (cI, n_p0_growth_nodes, .inl p0_growth_nodes_former))]
abbrev q_X9_above (dC : Nat → ClassId) (dI : Nat → Nat → Nat) (cI cJ cZ : ClassId) (h_p0 : Nat) (ad_p0 : Nat → Nat) (ad_p0_growth : Nat → Nat) (ad_p0_growth_nodes : Nat → Nat) (n_p0_growth_nodes : Nat) (p0_goings : Int32) (p0_latestFault : Int32) (p0_growth_made : Int32) (p0_growth_endlessNode : Int32) (p0_growth_endlessBy : Int32) (p0_growth_nodes_width : Int32) (p0_growth_nodes_size : Int32) (p0_growth_leaves : Nat → Int32) (p0_growth_nodes_by : Nat → Int32) (p0_growth_nodes_former : Nat → Int32) (post : Int32 → Prop) (A : Nat → Prop) : Array Value → State → Outcome → State → Prop := va_Qi (fun r (u : Unit) => post r ) (fun (u : Unit) t => xPost (dC, dI) A (wld_X9_above cI cJ cZ h_p0 ad_p0 ad_p0_growth ad_p0_growth_nodes n_p0_growth_nodes p0_goings p0_latestFault p0_growth_made p0_growth_endlessNode p0_growth_endlessBy p0_growth_nodes_width p0_growth_nodes_size p0_growth_leaves p0_growth_nodes_by p0_growth_nodes_former) t) A
def w_X9_above (n_p0_growth_nodes : Nat) (p0_growth_made : Int32) (p0_growth_nodes_size : Int32) (p0_growth_leaves : Nat → Int32) (p0_growth_nodes_by : Nat → Int32) (p0_growth_nodes_former : Nat → Int32) (a1 : Int32) (a2 : Int32) (post : Int32 → Prop) : Prop :=
  (a2 < 0 →
    (post (-2000000001 : Int32))) ∧
  (¬ a2 < 0 →
    (a2 ≤ (2 : Int32) →
      w_X8_refusal p0_growth_made p0_growth_nodes_size a1 (fun r5 =>
      (r5 = 0 →
        (¬ a2 = (2 : Int32) →
          (¬ a2 = 0 →
            vp_in a1 n_p0_growth_nodes ∧
            (post (p0_growth_nodes_by a1.toNatClampNeg))) ∧
          (a2 = 0 →
            vp_in a1 n_p0_growth_nodes ∧
            (post (p0_growth_nodes_former a1.toNatClampNeg)))) ∧
        (a2 = (2 : Int32) →
          vp_in a1 2000 ∧
          (post (p0_growth_leaves a1.toNatClampNeg)))) ∧
      (¬ r5 = 0 →
        (post r5)))) ∧
    (¬ a2 ≤ (2 : Int32) →
      (post (-2000000001 : Int32))))
set_option maxHeartbeats 4000000 in
set_option maxRecDepth 100000 in
theorem c_X9_above {l : Launch} {dC : Nat → ClassId} {dI : Nat → Nat → Nat} {sz : Nat} {cI cJ cZ : ClassId} {h_p0 : Nat} {ad_p0 : Nat → Nat} {ad_p0_growth : Nat → Nat} {ad_p0_growth_nodes : Nat → Nat} {n_p0_growth_nodes : Nat} {p0_goings : Int32} {p0_latestFault : Int32} {p0_growth_made : Int32} {p0_growth_endlessNode : Int32} {p0_growth_endlessBy : Int32} {p0_growth_nodes_width : Int32} {p0_growth_nodes_size : Int32} {p0_growth_leaves : Nat → Int32} {p0_growth_nodes_by : Nat → Int32} {p0_growth_nodes_former : Nat → Int32} {a1 : Int32} {a2 : Int32} {post : Int32 → Prop} (hw : w_X9_above n_p0_growth_nodes p0_growth_made p0_growth_nodes_size p0_growth_leaves p0_growth_nodes_by p0_growth_nodes_former a1 a2 post) : Met l yX9_above wsX9_above ({ frames := 1, cells := 0, slots := 0, locals := 21 }) (va_Pc [.ref h_p0, .int a1, .int a2] (xPre (dC, dI) cI cJ cZ (wld_X9_above cI cJ cZ h_p0 ad_p0 ad_p0_growth ad_p0_growth_nodes n_p0_growth_nodes p0_goings p0_latestFault p0_growth_made p0_growth_endlessNode p0_growth_endlessBy p0_growth_nodes_width p0_growth_nodes_size p0_growth_leaves p0_growth_nodes_by p0_growth_nodes_former) sz)) (q_X9_above dC dI cI cJ cZ h_p0 ad_p0 ad_p0_growth ad_p0_growth_nodes n_p0_growth_nodes p0_goings p0_latestFault p0_growth_made p0_growth_endlessNode p0_growth_endlessBy p0_growth_nodes_width p0_growth_nodes_size p0_growth_leaves p0_growth_nodes_by p0_growth_nodes_former post (va_A (wld_X9_above cI cJ cZ h_p0 ad_p0 ad_p0_growth ad_p0_growth_nodes n_p0_growth_nodes p0_goings p0_latestFault p0_growth_made p0_growth_endlessNode p0_growth_endlessBy p0_growth_nodes_width p0_growth_nodes_size p0_growth_leaves p0_growth_nodes_by p0_growth_nodes_former) sz)) 0 0 (va_A (wld_X9_above cI cJ cZ h_p0 ad_p0 ad_p0_growth ad_p0_growth_nodes n_p0_growth_nodes p0_goings p0_latestFault p0_growth_made p0_growth_endlessNode p0_growth_endlessBy p0_growth_nodes_width p0_growth_nodes_size p0_growth_leaves p0_growth_nodes_by p0_growth_nodes_former) sz) := by
  refine x_met (cc := cX9_above) (maxL := 4) (ret := (some .int)) (own := RX9) (Qc := fun A => (q_X9_above dC dI cI cJ cZ h_p0 ad_p0 ad_p0_growth ad_p0_growth_nodes n_p0_growth_nodes p0_goings p0_latestFault p0_growth_made p0_growth_endlessNode p0_growth_endlessBy p0_growth_nodes_width p0_growth_nodes_size p0_growth_leaves p0_growth_nodes_by p0_growth_nodes_former post A)) (by decide) rfl rfl (Nat.le_of_ble_eq_true rfl) ?_
  intro p e s m args below meth c A ls E0 hP hD hS hl
  obtain ⟨hx, hb, hr, hml, hown, hts, hlocks, hK, hA, n1, n2⟩ := id E0
  have iX4 : ∀ w ∈ u_ws RX4 TX4 7, w ∈ wsX9_above := fun w h => List.mem_cons_of_mem _ (List.mem_append_right _ h)
  have iX8 : ∀ w ∈ u_ws RX8 TX8 6, w ∈ wsX9_above := fun w h => List.mem_cons_of_mem _ (List.mem_append_left _ (List.mem_append_right _ h))
  have iX9 : ∀ w ∈ u_ws RX9 TX9 12, w ∈ wsX9_above := fun w h => List.mem_cons_of_mem _ (List.mem_append_left _ (List.mem_append_left _ (List.mem_append_right _ h)))
  have hS0 := hS
  have hl : lv_has ls 4 [(0, .ref h_p0), (1, .int a1), (2, .int a2)] := hl
  unfold w_X9_above at hw
  obtain ⟨H, hH⟩ : ∃ H, H = s.heap := ⟨_, rfl⟩
  have hS : va_S A s.heap H [] := by rw [hH]; exact hS
  have hP : va_P (dC, dI) vwCl (wld_X9_above cI cJ cZ h_p0 ad_p0 ad_p0_growth ad_p0_growth_nodes n_p0_growth_nodes p0_goings p0_latestFault p0_growth_made p0_growth_endlessNode p0_growth_endlessBy p0_growth_nodes_width p0_growth_nodes_size p0_growth_leaves p0_growth_nodes_by p0_growth_nodes_former) H := by rw [hH]; exact hP
  suffices hG : W p l e ({ frames := 1, cells := 0, slots := 0, locals := 21 }) s m args below meth c H [] 0 0 (MQ below (q_X9_above dC dI cI cJ cZ h_p0 ad_p0 ad_p0_growth ad_p0_growth_nodes n_p0_growth_nodes p0_goings p0_latestFault p0_growth_made p0_growth_endlessNode p0_growth_endlessBy p0_growth_nodes_width p0_growth_nodes_size p0_growth_leaves p0_growth_nodes_by p0_growth_nodes_former post A) args s 0 0 A) (F0 m 0 ls []) by rw [hH] at hG; exact hG
  clear hH
  refine lv_iload_n hx hb dX9_above_0 rfl (lv_at hl 2 rfl) ?_
  refine lv_if_lt (tgt := 9) hx hb dX9_above_1 (by decide) (fun c1 => ?_) (fun c2 => ?_)
  · have hw := hw.1 c1
    refine lv_ldc (v := -2000000001) hx hb hown (hts (.constant RX9 79 (-2000000001)) (by decide +kernel)) dX9_above_9 ?_
    exact x_iret (w1 := fun (u : Unit) => (wld_X9_above cI cJ cZ h_p0 ad_p0 ad_p0_growth ad_p0_growth_nodes n_p0_growth_nodes p0_goings p0_latestFault p0_growth_made p0_growth_endlessNode p0_growth_endlessBy p0_growth_nodes_width p0_growth_nodes_size p0_growth_leaves p0_growth_nodes_by p0_growth_nodes_former)) hx hb hr hlocks () hw hP hD hS dX9_above_11
  · have hw := hw.2 c2
    refine lv_iload_n hx hb dX9_above_4 rfl (lv_at hl 2 rfl) ?_
    refine lv_iconst (v := 2) hx hb dX9_above_5 (by decide) ?_
    refine lv_icmp_le (tgt := 12) hx hb dX9_above_6 (by decide) (fun c3 => ?_) (fun c4 => ?_)
    · have hw := hw.1 c3
      refine lv_aload_n hx hb dX9_above_12 rfl (lv_at hl 0 rfl) ?_
      refine va_get (D := (dC, dI)) (ci := 9) (v := .ref (ad_p0 6)) (C := RX9) (T := TX9) (N := 12) hx hb hts iX9 hown hK hP 0 rfl rfl 6 (by decide) (hts (.fieldLink RX9 50 "NetHouse" "growth" "LNetHouse$Tree;") (by decide +kernel)) (fun _ h9 => h9) rfl dX9_above_13 ?_
      refine lv_iload_n hx hb dX9_above_16 rfl (lv_at hl 1 rfl) ?_
      obtain ⟨hPc, hDc⟩ := x_sub (wc := (wld_X8_refusal cI cJ cZ (ad_p0 6) ad_p0_growth ad_p0_growth_nodes p0_growth_made p0_growth_endlessNode p0_growth_endlessBy p0_growth_nodes_width p0_growth_nodes_size)) hP hD [1, 3] (n := 6) rfl rfl (by decide +kernel)
      refine x_calli (ws' := fun (u : Unit) => (wld_X9_above cI cJ cZ h_p0 ad_p0 ad_p0_growth ad_p0_growth_nodes n_p0_growth_nodes p0_goings p0_latestFault p0_growth_made p0_growth_endlessNode p0_growth_endlessBy p0_growth_nodes_width p0_growth_nodes_size p0_growth_leaves p0_growth_nodes_by p0_growth_nodes_former)) hP hD hS hA [1, 3] [0, 2, 4, 5] [0, 4, 1, 5, 2, 3] (n := 6) (k := 2) rfl (fun _ => rfl) rfl (by decide +kernel) (fun _ => rfl) (va_runV (As := [.int a1]) (rest := []) ⟨hx, hb, hml, hown, hts⟩ (c_X8_refusal (l := l) (dC := dC) (dI := dI) (cI := cI) (cJ := cJ) (cZ := cZ) (sz := H.size) (h_p0 := (ad_p0 6)) (ad_p0 := ad_p0_growth) (ad_p0_nodes := ad_p0_growth_nodes) (p0_made := p0_growth_made) (p0_endlessNode := p0_growth_endlessNode) (p0_endlessBy := p0_growth_endlessBy) (p0_nodes_width := p0_growth_nodes_width) (p0_nodes_size := p0_growth_nodes_size) hw) (cwV 1 hts gX9_above_X8_refusal rfl rfl rfl (by decide +kernel) ⟨Nat.le_of_ble_eq_true rfl, Nat.le_of_ble_eq_true rfl⟩) ⟨xPre_blind, va_recv hK hP (ci := 8) (q0 := 1) rfl rfl, xPre_at hK hPc hDc n1 n2⟩ rfl rfl hl.1 rfl (lv_room (Nat.le_of_ble_eq_true rfl)) dX9_above_17 ⟨Nat.zero_le _, Nat.zero_le _⟩) (fun r5 u H locs hw hP hD hS => ?_)
      try dsimp only at hw
      have hP : va_P (dC, dI) vwCl (wld_X9_above cI cJ cZ h_p0 ad_p0 ad_p0_growth ad_p0_growth_nodes n_p0_growth_nodes p0_goings p0_latestFault p0_growth_made p0_growth_endlessNode p0_growth_endlessBy p0_growth_nodes_width p0_growth_nodes_size p0_growth_leaves p0_growth_nodes_by p0_growth_nodes_former) H := hP
      have hD : va_D A (wld_X9_above cI cJ cZ h_p0 ad_p0 ad_p0_growth ad_p0_growth_nodes n_p0_growth_nodes p0_goings p0_latestFault p0_growth_made p0_growth_endlessNode p0_growth_endlessBy p0_growth_nodes_width p0_growth_nodes_size p0_growth_leaves p0_growth_nodes_by p0_growth_nodes_former) := hD
      refine lv_istore_n (lv' := [(3, .int r5), (0, .ref h_p0), (1, .int a1), (2, .int a2)]) hx hb dX9_above_20 rfl hl (by decide) rfl (fun ls hl => ?_)
      refine lv_iload_n hx hb dX9_above_21 rfl (lv_at hl 0 rfl) ?_
      refine lv_if_eq (tgt := 27) hx hb dX9_above_22 (by decide) (fun c6 => ?_) (fun c7 => ?_)
      · have hw := hw.1 c6
        refine lv_iload_n hx hb dX9_above_27 rfl (lv_at hl 3 rfl) ?_
        refine lv_iconst (v := 2) hx hb dX9_above_28 (by decide) ?_
        refine lv_icmp_ne (tgt := 42) hx hb dX9_above_29 (by decide) (fun c8 => ?_) (fun c9 => ?_)
        · have hw := hw.1 c8
          refine lv_iload_n hx hb dX9_above_42 rfl (lv_at hl 3 rfl) ?_
          refine lv_if_ne (tgt := 61) hx hb dX9_above_43 (by decide) (fun c10 => ?_) (fun c11 => ?_)
          · have hw := hw.1 c10
            refine lv_aload_n hx hb dX9_above_61 rfl (lv_at hl 1 rfl) ?_
            refine va_get (D := (dC, dI)) (ci := 9) (v := .ref (ad_p0 6)) (C := RX9) (T := TX9) (N := 12) hx hb hts iX9 hown hK hP 0 rfl rfl 6 (by decide) (hts (.fieldLink RX9 50 "NetHouse" "growth" "LNetHouse$Tree;") (by decide +kernel)) (fun _ h9 => h9) rfl dX9_above_62 ?_
            refine va_get (D := (dC, dI)) (ci := 8) (v := .ref (ad_p0_growth 0)) (C := RX8) (T := TX8) (N := 6) hx hb hts iX8 hown hK hP 1 rfl rfl 0 (by decide) (hts (.fieldLink RX9 303 "NetHouse$Tree" "nodes" "LNetHouse$Markings;") (by decide +kernel)) (fun _ h9 => h9) rfl dX9_above_65 ?_
            refine va_get (D := (dC, dI)) (ci := 4) (v := .ref (ad_p0_growth_nodes 2)) (C := RX4) (T := TX4) (N := 7) hx hb hts iX4 hown hK hP 3 rfl rfl 2 (by decide) (hts (.fieldLink RX9 316 "NetHouse$Markings" "by" "[I") (by decide +kernel)) (fun _ h9 => h9) rfl dX9_above_68 ?_
            refine lv_iload_n hx hb dX9_above_71 rfl (lv_at hl 2 rfl) ?_
            refine va_iald hx hb hK hP 4 0 rfl rfl hw.1 dX9_above_72 ?_
            have hw := hw.2
            exact x_iret (w1 := fun (u : Unit) => (wld_X9_above cI cJ cZ h_p0 ad_p0 ad_p0_growth ad_p0_growth_nodes n_p0_growth_nodes p0_goings p0_latestFault p0_growth_made p0_growth_endlessNode p0_growth_endlessBy p0_growth_nodes_width p0_growth_nodes_size p0_growth_leaves p0_growth_nodes_by p0_growth_nodes_former)) hx hb hr hlocks () hw hP hD hS dX9_above_73
          · have hw := hw.2 c11
            refine lv_aload_n hx hb dX9_above_46 rfl (lv_at hl 1 rfl) ?_
            refine va_get (D := (dC, dI)) (ci := 9) (v := .ref (ad_p0 6)) (C := RX9) (T := TX9) (N := 12) hx hb hts iX9 hown hK hP 0 rfl rfl 6 (by decide) (hts (.fieldLink RX9 50 "NetHouse" "growth" "LNetHouse$Tree;") (by decide +kernel)) (fun _ h9 => h9) rfl dX9_above_47 ?_
            refine va_get (D := (dC, dI)) (ci := 8) (v := .ref (ad_p0_growth 0)) (C := RX8) (T := TX8) (N := 6) hx hb hts iX8 hown hK hP 1 rfl rfl 0 (by decide) (hts (.fieldLink RX9 303 "NetHouse$Tree" "nodes" "LNetHouse$Markings;") (by decide +kernel)) (fun _ h9 => h9) rfl dX9_above_50 ?_
            refine va_get (D := (dC, dI)) (ci := 4) (v := .ref (ad_p0_growth_nodes 1)) (C := RX4) (T := TX4) (N := 7) hx hb hts iX4 hown hK hP 3 rfl rfl 1 (by decide) (hts (.fieldLink RX9 313 "NetHouse$Markings" "former" "[I") (by decide +kernel)) (fun _ h9 => h9) rfl dX9_above_53 ?_
            refine lv_iload_n hx hb dX9_above_56 rfl (lv_at hl 2 rfl) ?_
            refine va_iald hx hb hK hP 5 0 rfl rfl hw.1 dX9_above_57 ?_
            have hw := hw.2
            refine lv_goto (tgt := 73) hx hb dX9_above_58 (by decide) ?_
            exact x_iret (w1 := fun (u : Unit) => (wld_X9_above cI cJ cZ h_p0 ad_p0 ad_p0_growth ad_p0_growth_nodes n_p0_growth_nodes p0_goings p0_latestFault p0_growth_made p0_growth_endlessNode p0_growth_endlessBy p0_growth_nodes_width p0_growth_nodes_size p0_growth_leaves p0_growth_nodes_by p0_growth_nodes_former)) hx hb hr hlocks () hw hP hD hS dX9_above_73
        · have hw := hw.2 c9
          refine lv_aload_n hx hb dX9_above_32 rfl (lv_at hl 1 rfl) ?_
          refine va_get (D := (dC, dI)) (ci := 9) (v := .ref (ad_p0 6)) (C := RX9) (T := TX9) (N := 12) hx hb hts iX9 hown hK hP 0 rfl rfl 6 (by decide) (hts (.fieldLink RX9 50 "NetHouse" "growth" "LNetHouse$Tree;") (by decide +kernel)) (fun _ h9 => h9) rfl dX9_above_33 ?_
          refine va_get (D := (dC, dI)) (ci := 8) (v := .ref (ad_p0_growth 2)) (C := RX8) (T := TX8) (N := 6) hx hb hts iX8 hown hK hP 1 rfl rfl 2 (by decide) (hts (.fieldLink RX9 310 "NetHouse$Tree" "leaves" "[I") (by decide +kernel)) (fun _ h9 => h9) rfl dX9_above_36 ?_
          refine lv_iload_n hx hb dX9_above_39 rfl (lv_at hl 2 rfl) ?_
          refine va_iald hx hb hK hP 2 0 rfl rfl hw.1 dX9_above_40 ?_
          have hw := hw.2
          exact x_iret (w1 := fun (u : Unit) => (wld_X9_above cI cJ cZ h_p0 ad_p0 ad_p0_growth ad_p0_growth_nodes n_p0_growth_nodes p0_goings p0_latestFault p0_growth_made p0_growth_endlessNode p0_growth_endlessBy p0_growth_nodes_width p0_growth_nodes_size p0_growth_leaves p0_growth_nodes_by p0_growth_nodes_former)) hx hb hr hlocks () hw hP hD hS dX9_above_41
      · have hw := hw.2 c7
        refine lv_iload_n hx hb dX9_above_25 rfl (lv_at hl 0 rfl) ?_
        exact x_iret (w1 := fun (u : Unit) => (wld_X9_above cI cJ cZ h_p0 ad_p0 ad_p0_growth ad_p0_growth_nodes n_p0_growth_nodes p0_goings p0_latestFault p0_growth_made p0_growth_endlessNode p0_growth_endlessBy p0_growth_nodes_width p0_growth_nodes_size p0_growth_leaves p0_growth_nodes_by p0_growth_nodes_former)) hx hb hr hlocks () hw hP hD hS dX9_above_26
    · have hw := hw.2 c4
      refine lv_ldc (v := -2000000001) hx hb hown (hts (.constant RX9 79 (-2000000001)) (by decide +kernel)) dX9_above_9 ?_
      exact x_iret (w1 := fun (u : Unit) => (wld_X9_above cI cJ cZ h_p0 ad_p0 ad_p0_growth ad_p0_growth_nodes n_p0_growth_nodes p0_goings p0_latestFault p0_growth_made p0_growth_endlessNode p0_growth_endlessBy p0_growth_nodes_width p0_growth_nodes_size p0_growth_leaves p0_growth_nodes_by p0_growth_nodes_former)) hx hb hr hlocks () hw hP hD hS dX9_above_11
abbrev wld_X9_cover (cI cJ cZ : ClassId) (h_p0 : Nat) (ad_p0 : Nat → Nat) (ad_p0_growth : Nat → Nat) (ad_p0_growth_nodes : Nat → Nat) (ad_p0_hand : Nat → Nat) (ad_p0_net : Nat → Nat) (ad_p0_trial : Nat → Nat) (n_p0_growth_nodes : Nat) (p0_goings : Int32) (p0_latestFault : Int32) (p0_growth_made : Int32) (p0_growth_endlessNode : Int32) (p0_growth_endlessBy : Int32) (p0_growth_nodes_width : Int32) (p0_growth_nodes_size : Int32) (p0_hand_rowSize : Int32) (p0_hand_waySize : Int32) (p0_net_places : Int32) (p0_net_steps : Int32) (p0_net_coloured : Int32) (p0_growth_nodes_cells : Nat → Int32) (p0_hand_row : Nat → Int32) (p0_trial_many : Nat → Int32) : va_W := [(h_p0, .inr (9, [.ref (ad_p0 0), .ref (ad_p0 1), .ref (ad_p0 2), .ref (ad_p0 3), .ref (ad_p0 4), .ref (ad_p0 5), .ref (ad_p0 6), .ref (ad_p0 7), .ref (ad_p0 8), .ref (ad_p0 9), .int p0_goings, .int p0_latestFault])), ((ad_p0 6), .inr (8, [.ref (ad_p0_growth 0), .ref (ad_p0_growth 1), .ref (ad_p0_growth 2), .int p0_growth_made, .int p0_growth_endlessNode, .int p0_growth_endlessBy])), ((ad_p0_growth 0), .inr (4, [.ref (ad_p0_growth_nodes 0), .ref (ad_p0_growth_nodes 1), .ref (ad_p0_growth_nodes 2), .ref (ad_p0_growth_nodes 3), .ref (ad_p0_growth_nodes 4), .int p0_growth_nodes_width, .int p0_growth_nodes_size])), ((ad_p0_growth_nodes 0), .inl (cI, (n_p0_growth_nodes * 16), .inl p0_growth_nodes_cells)), ((ad_p0 4), .inr (2, [.ref (ad_p0_hand 0), .ref (ad_p0_hand 1), .int p0_hand_rowSize, .int p0_hand_waySize])), ((ad_p0_hand 0), .inl (cI, 16, .inl p0_hand_row)), ((ad_p0 0), .inr (5, [.ref (ad_p0_net 0), .ref (ad_p0_net 1), .ref (ad_p0_net 2), .ref (ad_p0_net 3), .ref (ad_p0_net 4), .ref (ad_p0_net 5), .ref (ad_p0_net 6), .ref (ad_p0_net 7), .ref (ad_p0_net 8), .ref (ad_p0_net 9), .ref (ad_p0_net 10), .int p0_net_places, .int p0_net_steps, .int p0_net_coloured])), ((ad_p0 2), .inr (3, [.ref (ad_p0_trial 0), .ref (ad_p0_trial 1)])), ((ad_p0_trial 0), .inl (cI, 16, .inl p0_trial_many))]
abbrev q_X9_cover (dC : Nat → ClassId) (dI : Nat → Nat → Nat) (cI cJ cZ : ClassId) (h_p0 : Nat) (ad_p0 : Nat → Nat) (ad_p0_growth : Nat → Nat) (ad_p0_growth_nodes : Nat → Nat) (ad_p0_hand : Nat → Nat) (ad_p0_net : Nat → Nat) (ad_p0_trial : Nat → Nat) (n_p0_growth_nodes : Nat) (p0_goings : Int32) (p0_latestFault : Int32) (p0_growth_made : Int32) (p0_growth_endlessNode : Int32) (p0_growth_endlessBy : Int32) (p0_growth_nodes_width : Int32) (p0_growth_nodes_size : Int32) (p0_hand_rowSize : Int32) (p0_hand_waySize : Int32) (p0_net_places : Int32) (p0_net_steps : Int32) (p0_net_coloured : Int32) (p0_growth_nodes_cells : Nat → Int32) (p0_hand_row : Nat → Int32) (p0_trial_many : Nat → Int32) (post : Int32 → (Nat → Int32) → Prop) (A : Nat → Prop) : Array Value → State → Outcome → State → Prop := va_Qi (fun r (u : (Nat → Int32)) => post r u) (fun (u : (Nat → Int32)) t => xPost (dC, dI) A (wld_X9_cover cI cJ cZ h_p0 ad_p0 ad_p0_growth ad_p0_growth_nodes ad_p0_hand ad_p0_net ad_p0_trial n_p0_growth_nodes p0_goings p0_latestFault p0_growth_made p0_growth_endlessNode p0_growth_endlessBy p0_growth_nodes_width p0_growth_nodes_size p0_hand_rowSize p0_hand_waySize p0_net_places p0_net_steps p0_net_coloured p0_growth_nodes_cells p0_hand_row u) t) A
def w_X9_cover_L19b (n_p0_growth_nodes : Nat) (p0_growth_made : Int32) (p0_growth_nodes_size : Int32) (p0_growth_nodes_width : Int32) (p0_hand_rowSize : Int32) (p0_net_places : Int32) (p0_growth_nodes_cells : Nat → Int32) (p0_hand_row : Nat → Int32) (p0_trial_many : Nat → Int32) (post : Int32 → (Nat → Int32) → Prop) (K : (Int32) → Prop) (rec : (Int32) → Prop) (v1 : Int32) : Prop :=
    (p0_growth_nodes_size ≤ v1 →
      K v1) ∧
    (¬ p0_growth_nodes_size ≤ v1 →
      w_X4_isNowhereBelow n_p0_growth_nodes p0_growth_nodes_width p0_growth_nodes_cells p0_trial_many v1 (fun r6 =>
      (r6 = 0 →
        ∀ x9 : Int32, x9 = v1 + (1 : Int32) →
        rec x9) ∧
      (¬ r6 = 0 →
        (post v1 p0_trial_many))))
def w_X9_cover_L19 (n_p0_growth_nodes : Nat) (p0_growth_made : Int32) (p0_growth_nodes_size : Int32) (p0_growth_nodes_width : Int32) (p0_hand_rowSize : Int32) (p0_net_places : Int32) (p0_growth_nodes_cells : Nat → Int32) (p0_hand_row : Nat → Int32) (p0_trial_many : Nat → Int32) (post : Int32 → (Nat → Int32) → Prop) (K : (Int32) → Prop) : Nat → (Int32) → Prop
  | 0, _ => False
  | n + 1, v1 => w_X9_cover_L19b n_p0_growth_nodes p0_growth_made p0_growth_nodes_size p0_growth_nodes_width p0_hand_rowSize p0_net_places p0_growth_nodes_cells p0_hand_row p0_trial_many post K (w_X9_cover_L19 n_p0_growth_nodes p0_growth_made p0_growth_nodes_size p0_growth_nodes_width p0_hand_rowSize p0_net_places p0_growth_nodes_cells p0_hand_row p0_trial_many post K n) v1
def w_X9_cover (n_p0_growth_nodes : Nat) (p0_growth_made : Int32) (p0_growth_nodes_size : Int32) (p0_growth_nodes_width : Int32) (p0_hand_rowSize : Int32) (p0_net_places : Int32) (p0_growth_nodes_cells : Nat → Int32) (p0_hand_row : Nat → Int32) (p0_trial_many : Nat → Int32) (post : Int32 → (Nat → Int32) → Prop) : Prop :=
  (¬ p0_growth_made = 0 →
    w_X9_tryTheRow p0_hand_rowSize p0_net_places p0_hand_row p0_trial_many (fun y3 =>
    ∃ n : Nat, w_X9_cover_L19 n_p0_growth_nodes p0_growth_made p0_growth_nodes_size p0_growth_nodes_width p0_hand_rowSize p0_net_places p0_growth_nodes_cells p0_hand_row y3 post (fun v11 =>
        (post (-2000000005 : Int32) y3)) n (0 : Int32))) ∧
  (p0_growth_made = 0 →
    (post (-2000000002 : Int32) p0_trial_many))
set_option maxHeartbeats 4000000 in
set_option maxRecDepth 100000 in
theorem c_X9_cover_L19 {p : Program} {l : Launch} {e : Env} {s : State} {m : MethodId} {args : Array Value} {below : List Frame} {meth : Method} {c : Code} {dC : Nat → ClassId} {dI : Nat → Nat → Nat} {A : Nat → Prop} {cI cJ cZ : ClassId} {h_p0 : Nat} {ad_p0 : Nat → Nat} {ad_p0_growth : Nat → Nat} {ad_p0_growth_nodes : Nat → Nat} {ad_p0_hand : Nat → Nat} {ad_p0_net : Nat → Nat} {ad_p0_trial : Nat → Nat} {n_p0_growth_nodes : Nat} {p0_goings : Int32} {p0_latestFault : Int32} {p0_growth_made : Int32} {p0_growth_endlessNode : Int32} {p0_growth_endlessBy : Int32} {p0_growth_nodes_width : Int32} {p0_growth_nodes_size : Int32} {p0_hand_rowSize : Int32} {p0_hand_waySize : Int32} {p0_net_places : Int32} {p0_net_steps : Int32} {p0_net_coloured : Int32} {p0_growth_nodes_cells : Nat → Int32} {p0_hand_row : Nat → Int32} {p0_trial_many : Nat → Int32}  {post : Int32 → (Nat → Int32) → Prop} {K : (Int32) → Prop} (E0 : xEnv p s m args meth c cX9_cover (some .int) 2 RX9 wsX9_cover (dC, dI) cI cJ cZ A) (hk : ∀ (v1 : Int32) (H : Heap) (locs : List Loc) (ls : Array Slot), K v1 → va_P (dC, dI) vwCl (wld_X9_cover cI cJ cZ h_p0 ad_p0 ad_p0_growth ad_p0_growth_nodes ad_p0_hand ad_p0_net ad_p0_trial n_p0_growth_nodes p0_goings p0_latestFault p0_growth_made p0_growth_endlessNode p0_growth_endlessBy p0_growth_nodes_width p0_growth_nodes_size p0_hand_rowSize p0_hand_waySize p0_net_places p0_net_steps p0_net_coloured p0_growth_nodes_cells p0_hand_row p0_trial_many) H → va_D A (wld_X9_cover cI cJ cZ h_p0 ad_p0 ad_p0_growth ad_p0_growth_nodes ad_p0_hand ad_p0_net ad_p0_trial n_p0_growth_nodes p0_goings p0_latestFault p0_growth_made p0_growth_endlessNode p0_growth_endlessBy p0_growth_nodes_width p0_growth_nodes_size p0_hand_rowSize p0_hand_waySize p0_net_places p0_net_steps p0_net_coloured p0_growth_nodes_cells p0_hand_row p0_trial_many) → va_S A s.heap H locs → lv_has ls 2 [] → W p l e ({ frames := 3, cells := 0, slots := 0, locals := 63 }) s m args below meth c H locs 0 0 (MQ below (q_X9_cover dC dI cI cJ cZ h_p0 ad_p0 ad_p0_growth ad_p0_growth_nodes ad_p0_hand ad_p0_net ad_p0_trial n_p0_growth_nodes p0_goings p0_latestFault p0_growth_made p0_growth_endlessNode p0_growth_endlessBy p0_growth_nodes_width p0_growth_nodes_size p0_hand_rowSize p0_hand_waySize p0_net_places p0_net_steps p0_net_coloured p0_growth_nodes_cells p0_hand_row p0_trial_many post A) args s 0 0 A) (F0 m 59 ls [])) : ∀ (n : Nat) (v1 : Int32), w_X9_cover_L19 n_p0_growth_nodes p0_growth_made p0_growth_nodes_size p0_growth_nodes_width p0_hand_rowSize p0_net_places p0_growth_nodes_cells p0_hand_row p0_trial_many post K n v1 → ∀ (H : Heap) (locs : List Loc) (ls : Array Slot), va_P (dC, dI) vwCl (wld_X9_cover cI cJ cZ h_p0 ad_p0 ad_p0_growth ad_p0_growth_nodes ad_p0_hand ad_p0_net ad_p0_trial n_p0_growth_nodes p0_goings p0_latestFault p0_growth_made p0_growth_endlessNode p0_growth_endlessBy p0_growth_nodes_width p0_growth_nodes_size p0_hand_rowSize p0_hand_waySize p0_net_places p0_net_steps p0_net_coloured p0_growth_nodes_cells p0_hand_row p0_trial_many) H → va_D A (wld_X9_cover cI cJ cZ h_p0 ad_p0 ad_p0_growth ad_p0_growth_nodes ad_p0_hand ad_p0_net ad_p0_trial n_p0_growth_nodes p0_goings p0_latestFault p0_growth_made p0_growth_endlessNode p0_growth_endlessBy p0_growth_nodes_width p0_growth_nodes_size p0_hand_rowSize p0_hand_waySize p0_net_places p0_net_steps p0_net_coloured p0_growth_nodes_cells p0_hand_row p0_trial_many) → va_S A s.heap H locs → lv_has ls 2 [(0, .ref h_p0), (1, .int v1)] → W p l e ({ frames := 3, cells := 0, slots := 0, locals := 63 }) s m args below meth c H locs 0 0 (MQ below (q_X9_cover dC dI cI cJ cZ h_p0 ad_p0 ad_p0_growth ad_p0_growth_nodes ad_p0_hand ad_p0_net ad_p0_trial n_p0_growth_nodes p0_goings p0_latestFault p0_growth_made p0_growth_endlessNode p0_growth_endlessBy p0_growth_nodes_width p0_growth_nodes_size p0_hand_rowSize p0_hand_waySize p0_net_places p0_net_steps p0_net_coloured p0_growth_nodes_cells p0_hand_row p0_trial_many post A) args s 0 0 A) (F0 m 19 ls []) := by
  obtain ⟨hx, hb, hr, hml, hown, hts, hlocks, hK, hA, n1, n2⟩ := id E0
  have iX2 : ∀ w ∈ u_ws RX2 TX2 4, w ∈ wsX9_cover := fun w h => List.mem_cons_of_mem _ (List.mem_append_right _ h)
  have iX3 : ∀ w ∈ u_ws RX3 TX3 2, w ∈ wsX9_cover := fun w h => List.mem_cons_of_mem _ (List.mem_append_left _ (List.mem_append_right _ h))
  have iX4 : ∀ w ∈ u_ws RX4 TX4 7, w ∈ wsX9_cover := fun w h => List.mem_cons_of_mem _ (List.mem_append_left _ (List.mem_append_left _ (List.mem_append_left _ (List.mem_append_right _ h))))
  have iX5 : ∀ w ∈ u_ws RX5 TX5 14, w ∈ wsX9_cover := fun w h => List.mem_cons_of_mem _ (List.mem_append_left _ (List.mem_append_left _ (List.mem_append_right _ h)))
  have iX8 : ∀ w ∈ u_ws RX8 TX8 6, w ∈ wsX9_cover := fun w h => List.mem_cons_of_mem _ (List.mem_append_left _ (List.mem_append_left _ (List.mem_append_left _ (List.mem_append_left _ (List.mem_append_right _ h)))))
  have iX9 : ∀ w ∈ u_ws RX9 TX9 12, w ∈ wsX9_cover := fun w h => List.mem_cons_of_mem _ (List.mem_append_left _ (List.mem_append_left _ (List.mem_append_left _ (List.mem_append_left _ (List.mem_append_left _ (List.mem_append_right _ h))))))
  intro n
  induction n with
  | zero => intro v1 hw; exact hw.elim
  | succ n ih =>
    intro v1 hw H locs ls hP hD hS hl
    have hw : w_X9_cover_L19b n_p0_growth_nodes p0_growth_made p0_growth_nodes_size p0_growth_nodes_width p0_hand_rowSize p0_net_places p0_growth_nodes_cells p0_hand_row p0_trial_many post K (w_X9_cover_L19 n_p0_growth_nodes p0_growth_made p0_growth_nodes_size p0_growth_nodes_width p0_hand_rowSize p0_net_places p0_growth_nodes_cells p0_hand_row p0_trial_many post K n) v1 := hw
    unfold w_X9_cover_L19b at hw
    refine lv_iload_n hx hb dX9_cover_19 rfl (lv_at hl 1 rfl) ?_
    refine lv_aload_n hx hb dX9_cover_20 rfl (lv_at hl 0 rfl) ?_
    refine va_get (D := (dC, dI)) (ci := 9) (v := .ref (ad_p0 6)) (C := RX9) (T := TX9) (N := 12) hx hb hts iX9 hown hK hP 0 rfl rfl 6 (by decide) (hts (.fieldLink RX9 50 "NetHouse" "growth" "LNetHouse$Tree;") (by decide +kernel)) (fun _ h9 => h9) rfl dX9_cover_21 ?_
    refine va_get (D := (dC, dI)) (ci := 8) (v := .ref (ad_p0_growth 0)) (C := RX8) (T := TX8) (N := 6) hx hb hts iX8 hown hK hP 1 rfl rfl 0 (by decide) (hts (.fieldLink RX9 303 "NetHouse$Tree" "nodes" "LNetHouse$Markings;") (by decide +kernel)) (fun _ h9 => h9) rfl dX9_cover_24 ?_
    refine va_get (D := (dC, dI)) (ci := 4) (v := .int p0_growth_nodes_size) (C := RX4) (T := TX4) (N := 7) hx hb hts iX4 hown hK hP 2 rfl rfl 6 (by decide) (hts (.fieldLink RX9 252 "NetHouse$Markings" "size" "I") (by decide +kernel)) (fun _ h9 => h9) rfl dX9_cover_27 ?_
    refine lv_icmp_ge (tgt := 59) hx hb dX9_cover_30 (by decide) (fun c4 => ?_) (fun c5 => ?_)
    · have hw := hw.1 c4
      exact hk _ _ _ _ hw hP hD hS (lv_sub hl [] rfl)
    · have hw := hw.2 c5
      refine lv_aload_n hx hb dX9_cover_33 rfl (lv_at hl 0 rfl) ?_
      refine va_get (D := (dC, dI)) (ci := 9) (v := .ref (ad_p0 6)) (C := RX9) (T := TX9) (N := 12) hx hb hts iX9 hown hK hP 0 rfl rfl 6 (by decide) (hts (.fieldLink RX9 50 "NetHouse" "growth" "LNetHouse$Tree;") (by decide +kernel)) (fun _ h9 => h9) rfl dX9_cover_34 ?_
      refine va_get (D := (dC, dI)) (ci := 8) (v := .ref (ad_p0_growth 0)) (C := RX8) (T := TX8) (N := 6) hx hb hts iX8 hown hK hP 1 rfl rfl 0 (by decide) (hts (.fieldLink RX9 303 "NetHouse$Tree" "nodes" "LNetHouse$Markings;") (by decide +kernel)) (fun _ h9 => h9) rfl dX9_cover_37 ?_
      refine lv_iload_n hx hb dX9_cover_40 rfl (lv_at hl 1 rfl) ?_
      refine lv_aload_n hx hb dX9_cover_41 rfl (lv_at hl 0 rfl) ?_
      refine va_get (D := (dC, dI)) (ci := 9) (v := .ref (ad_p0 2)) (C := RX9) (T := TX9) (N := 12) hx hb hts iX9 hown hK hP 0 rfl rfl 2 (by decide) (hts (.fieldLink RX9 23 "NetHouse" "trial" "LNetHouse$Holding;") (by decide +kernel)) (fun _ h9 => h9) rfl dX9_cover_42 ?_
      obtain ⟨hPc, hDc⟩ := x_sub (wc := (wld_X4_isNowhereBelow cI cJ cZ (ad_p0_growth 0) (ad_p0 2) ad_p0_growth_nodes ad_p0_trial n_p0_growth_nodes p0_growth_nodes_width p0_growth_nodes_size p0_growth_nodes_cells p0_trial_many)) hP hD [2, 3, 7, 8] (n := 9) rfl rfl (by decide +kernel)
      refine x_calli (ws' := fun (u : Unit) => (wld_X9_cover cI cJ cZ h_p0 ad_p0 ad_p0_growth ad_p0_growth_nodes ad_p0_hand ad_p0_net ad_p0_trial n_p0_growth_nodes p0_goings p0_latestFault p0_growth_made p0_growth_endlessNode p0_growth_endlessBy p0_growth_nodes_width p0_growth_nodes_size p0_hand_rowSize p0_hand_waySize p0_net_places p0_net_steps p0_net_coloured p0_growth_nodes_cells p0_hand_row p0_trial_many)) hP hD hS hA [2, 3, 7, 8] [0, 1, 4, 5, 6] [0, 1, 5, 6, 2, 3, 4, 7, 8] (n := 9) (k := 4) rfl (fun _ => rfl) rfl (by decide +kernel) (fun _ => rfl) (va_runV (As := [.int v1, .ref (ad_p0 2)]) (rest := []) ⟨hx, hb, hml, hown, hts⟩ (c_X4_isNowhereBelow (l := l) (dC := dC) (dI := dI) (cI := cI) (cJ := cJ) (cZ := cZ) (sz := H.size) (h_p0 := (ad_p0_growth 0)) (h_p2 := (ad_p0 2)) (ad_p0 := ad_p0_growth_nodes) (ad_p2 := ad_p0_trial) (n_p0 := n_p0_growth_nodes) (p0_width := p0_growth_nodes_width) (p0_size := p0_growth_nodes_size) (p0_cells := p0_growth_nodes_cells) (p2_many := p0_trial_many) hw) (cwV 2 hts gX9_cover_X4_isNowhereBelow rfl rfl rfl (by decide +kernel) ⟨Nat.le_of_ble_eq_true rfl, Nat.le_of_ble_eq_true rfl⟩) ⟨xPre_blind, va_recv hK hP (ci := 4) (q0 := 2) rfl rfl, xPre_at hK hPc hDc n1 n2⟩ rfl rfl hl.1 rfl (lv_room (Nat.le_of_ble_eq_true rfl)) dX9_cover_45 ⟨Nat.zero_le _, Nat.zero_le _⟩) (fun r6 u H locs hw hP hD hS => ?_)
      try dsimp only at hw
      have hP : va_P (dC, dI) vwCl (wld_X9_cover cI cJ cZ h_p0 ad_p0 ad_p0_growth ad_p0_growth_nodes ad_p0_hand ad_p0_net ad_p0_trial n_p0_growth_nodes p0_goings p0_latestFault p0_growth_made p0_growth_endlessNode p0_growth_endlessBy p0_growth_nodes_width p0_growth_nodes_size p0_hand_rowSize p0_hand_waySize p0_net_places p0_net_steps p0_net_coloured p0_growth_nodes_cells p0_hand_row p0_trial_many) H := hP
      have hD : va_D A (wld_X9_cover cI cJ cZ h_p0 ad_p0 ad_p0_growth ad_p0_growth_nodes ad_p0_hand ad_p0_net ad_p0_trial n_p0_growth_nodes p0_goings p0_latestFault p0_growth_made p0_growth_endlessNode p0_growth_endlessBy p0_growth_nodes_width p0_growth_nodes_size p0_hand_rowSize p0_hand_waySize p0_net_places p0_net_steps p0_net_coloured p0_growth_nodes_cells p0_hand_row p0_trial_many) := hD
      refine lv_if_eq (tgt := 53) hx hb dX9_cover_48 (by decide) (fun c7 => ?_) (fun c8 => ?_)
      · have hw := hw.1 c7
        obtain ⟨x9, ex9⟩ : ∃ y : Int32, y = v1 + (1 : Int32) := ⟨_, rfl⟩
        have hw := hw x9 ex9
        refine lv_iinc (v := x9) (lv' := [(1, .int x9), (0, .ref h_p0)]) hx hb dX9_cover_53 hl (k := 1) rfl (by rw [ex9]; rfl) (by decide) rfl (fun ls hl => ?_)
        refine lv_goto (tgt := 19) hx hb dX9_cover_56 (by decide) ?_
        exact ih _ hw _ _ _ hP hD hS (lv_sub hl [1, 0] rfl)
      · have hw := hw.2 c8
        refine lv_iload_n hx hb dX9_cover_51 rfl (lv_at hl 1 rfl) ?_
        exact x_iret (w1 := fun (u : (Nat → Int32)) => (wld_X9_cover cI cJ cZ h_p0 ad_p0 ad_p0_growth ad_p0_growth_nodes ad_p0_hand ad_p0_net ad_p0_trial n_p0_growth_nodes p0_goings p0_latestFault p0_growth_made p0_growth_endlessNode p0_growth_endlessBy p0_growth_nodes_width p0_growth_nodes_size p0_hand_rowSize p0_hand_waySize p0_net_places p0_net_steps p0_net_coloured p0_growth_nodes_cells p0_hand_row u)) hx hb hr hlocks (p0_trial_many) hw hP hD hS dX9_cover_52
set_option maxHeartbeats 4000000 in
set_option maxRecDepth 100000 in
theorem c_X9_cover {l : Launch} {dC : Nat → ClassId} {dI : Nat → Nat → Nat} {sz : Nat} {cI cJ cZ : ClassId} {h_p0 : Nat} {ad_p0 : Nat → Nat} {ad_p0_growth : Nat → Nat} {ad_p0_growth_nodes : Nat → Nat} {ad_p0_hand : Nat → Nat} {ad_p0_net : Nat → Nat} {ad_p0_trial : Nat → Nat} {n_p0_growth_nodes : Nat} {p0_goings : Int32} {p0_latestFault : Int32} {p0_growth_made : Int32} {p0_growth_endlessNode : Int32} {p0_growth_endlessBy : Int32} {p0_growth_nodes_width : Int32} {p0_growth_nodes_size : Int32} {p0_hand_rowSize : Int32} {p0_hand_waySize : Int32} {p0_net_places : Int32} {p0_net_steps : Int32} {p0_net_coloured : Int32} {p0_growth_nodes_cells : Nat → Int32} {p0_hand_row : Nat → Int32} {p0_trial_many : Nat → Int32}  {post : Int32 → (Nat → Int32) → Prop} (hw : w_X9_cover n_p0_growth_nodes p0_growth_made p0_growth_nodes_size p0_growth_nodes_width p0_hand_rowSize p0_net_places p0_growth_nodes_cells p0_hand_row p0_trial_many post) : Met l yX9_cover wsX9_cover ({ frames := 3, cells := 0, slots := 0, locals := 63 }) (va_Pc [.ref h_p0] (xPre (dC, dI) cI cJ cZ (wld_X9_cover cI cJ cZ h_p0 ad_p0 ad_p0_growth ad_p0_growth_nodes ad_p0_hand ad_p0_net ad_p0_trial n_p0_growth_nodes p0_goings p0_latestFault p0_growth_made p0_growth_endlessNode p0_growth_endlessBy p0_growth_nodes_width p0_growth_nodes_size p0_hand_rowSize p0_hand_waySize p0_net_places p0_net_steps p0_net_coloured p0_growth_nodes_cells p0_hand_row p0_trial_many) sz)) (q_X9_cover dC dI cI cJ cZ h_p0 ad_p0 ad_p0_growth ad_p0_growth_nodes ad_p0_hand ad_p0_net ad_p0_trial n_p0_growth_nodes p0_goings p0_latestFault p0_growth_made p0_growth_endlessNode p0_growth_endlessBy p0_growth_nodes_width p0_growth_nodes_size p0_hand_rowSize p0_hand_waySize p0_net_places p0_net_steps p0_net_coloured p0_growth_nodes_cells p0_hand_row p0_trial_many post (va_A (wld_X9_cover cI cJ cZ h_p0 ad_p0 ad_p0_growth ad_p0_growth_nodes ad_p0_hand ad_p0_net ad_p0_trial n_p0_growth_nodes p0_goings p0_latestFault p0_growth_made p0_growth_endlessNode p0_growth_endlessBy p0_growth_nodes_width p0_growth_nodes_size p0_hand_rowSize p0_hand_waySize p0_net_places p0_net_steps p0_net_coloured p0_growth_nodes_cells p0_hand_row p0_trial_many) sz)) 0 0 (va_A (wld_X9_cover cI cJ cZ h_p0 ad_p0 ad_p0_growth ad_p0_growth_nodes ad_p0_hand ad_p0_net ad_p0_trial n_p0_growth_nodes p0_goings p0_latestFault p0_growth_made p0_growth_endlessNode p0_growth_endlessBy p0_growth_nodes_width p0_growth_nodes_size p0_hand_rowSize p0_hand_waySize p0_net_places p0_net_steps p0_net_coloured p0_growth_nodes_cells p0_hand_row p0_trial_many) sz) := by
  refine x_met (cc := cX9_cover) (maxL := 2) (ret := (some .int)) (own := RX9) (Qc := fun A => (q_X9_cover dC dI cI cJ cZ h_p0 ad_p0 ad_p0_growth ad_p0_growth_nodes ad_p0_hand ad_p0_net ad_p0_trial n_p0_growth_nodes p0_goings p0_latestFault p0_growth_made p0_growth_endlessNode p0_growth_endlessBy p0_growth_nodes_width p0_growth_nodes_size p0_hand_rowSize p0_hand_waySize p0_net_places p0_net_steps p0_net_coloured p0_growth_nodes_cells p0_hand_row p0_trial_many post A)) (by decide) rfl rfl (Nat.le_of_ble_eq_true rfl) ?_
  intro p e s m args below meth c A ls E0 hP hD hS hl
  obtain ⟨hx, hb, hr, hml, hown, hts, hlocks, hK, hA, n1, n2⟩ := id E0
  have iX2 : ∀ w ∈ u_ws RX2 TX2 4, w ∈ wsX9_cover := fun w h => List.mem_cons_of_mem _ (List.mem_append_right _ h)
  have iX3 : ∀ w ∈ u_ws RX3 TX3 2, w ∈ wsX9_cover := fun w h => List.mem_cons_of_mem _ (List.mem_append_left _ (List.mem_append_right _ h))
  have iX4 : ∀ w ∈ u_ws RX4 TX4 7, w ∈ wsX9_cover := fun w h => List.mem_cons_of_mem _ (List.mem_append_left _ (List.mem_append_left _ (List.mem_append_left _ (List.mem_append_right _ h))))
  have iX5 : ∀ w ∈ u_ws RX5 TX5 14, w ∈ wsX9_cover := fun w h => List.mem_cons_of_mem _ (List.mem_append_left _ (List.mem_append_left _ (List.mem_append_right _ h)))
  have iX8 : ∀ w ∈ u_ws RX8 TX8 6, w ∈ wsX9_cover := fun w h => List.mem_cons_of_mem _ (List.mem_append_left _ (List.mem_append_left _ (List.mem_append_left _ (List.mem_append_left _ (List.mem_append_right _ h)))))
  have iX9 : ∀ w ∈ u_ws RX9 TX9 12, w ∈ wsX9_cover := fun w h => List.mem_cons_of_mem _ (List.mem_append_left _ (List.mem_append_left _ (List.mem_append_left _ (List.mem_append_left _ (List.mem_append_left _ (List.mem_append_right _ h))))))
  have hS0 := hS
  have hl : lv_has ls 2 [(0, .ref h_p0)] := hl
  unfold w_X9_cover at hw
  obtain ⟨H, hH⟩ : ∃ H, H = s.heap := ⟨_, rfl⟩
  have hS : va_S A s.heap H [] := by rw [hH]; exact hS
  have hP : va_P (dC, dI) vwCl (wld_X9_cover cI cJ cZ h_p0 ad_p0 ad_p0_growth ad_p0_growth_nodes ad_p0_hand ad_p0_net ad_p0_trial n_p0_growth_nodes p0_goings p0_latestFault p0_growth_made p0_growth_endlessNode p0_growth_endlessBy p0_growth_nodes_width p0_growth_nodes_size p0_hand_rowSize p0_hand_waySize p0_net_places p0_net_steps p0_net_coloured p0_growth_nodes_cells p0_hand_row p0_trial_many) H := by rw [hH]; exact hP
  suffices hG : W p l e ({ frames := 3, cells := 0, slots := 0, locals := 63 }) s m args below meth c H [] 0 0 (MQ below (q_X9_cover dC dI cI cJ cZ h_p0 ad_p0 ad_p0_growth ad_p0_growth_nodes ad_p0_hand ad_p0_net ad_p0_trial n_p0_growth_nodes p0_goings p0_latestFault p0_growth_made p0_growth_endlessNode p0_growth_endlessBy p0_growth_nodes_width p0_growth_nodes_size p0_hand_rowSize p0_hand_waySize p0_net_places p0_net_steps p0_net_coloured p0_growth_nodes_cells p0_hand_row p0_trial_many post A) args s 0 0 A) (F0 m 0 ls []) by rw [hH] at hG; exact hG
  clear hH
  refine lv_aload_n hx hb dX9_cover_0 rfl (lv_at hl 0 rfl) ?_
  refine va_get (D := (dC, dI)) (ci := 9) (v := .ref (ad_p0 6)) (C := RX9) (T := TX9) (N := 12) hx hb hts iX9 hown hK hP 0 rfl rfl 6 (by decide) (hts (.fieldLink RX9 50 "NetHouse" "growth" "LNetHouse$Tree;") (by decide +kernel)) (fun _ h9 => h9) rfl dX9_cover_1 ?_
  refine va_get (D := (dC, dI)) (ci := 8) (v := .int p0_growth_made) (C := RX8) (T := TX8) (N := 6) hx hb hts iX8 hown hK hP 1 rfl rfl 3 (by decide) (hts (.fieldLink RX9 319 "NetHouse$Tree" "made" "Z") (by decide +kernel)) (fun _ h9 => h9) rfl dX9_cover_4 ?_
  refine lv_if_ne (tgt := 13) hx hb dX9_cover_7 (by decide) (fun c1 => ?_) (fun c2 => ?_)
  · have hw := hw.1 c1
    refine lv_aload_n hx hb dX9_cover_13 rfl (lv_at hl 0 rfl) ?_
    obtain ⟨hPc, hDc⟩ := x_sub (wc := (wld_X9_tryTheRow cI cJ cZ h_p0 ad_p0 ad_p0_hand ad_p0_net ad_p0_trial p0_goings p0_latestFault p0_hand_rowSize p0_hand_waySize p0_net_places p0_net_steps p0_net_coloured p0_hand_row p0_trial_many)) hP hD [0, 4, 5, 6, 7, 8] (n := 9) rfl rfl (by decide +kernel)
    refine x_callv (ws' := fun (u : (Nat → Int32)) => (wld_X9_cover cI cJ cZ h_p0 ad_p0 ad_p0_growth ad_p0_growth_nodes ad_p0_hand ad_p0_net ad_p0_trial n_p0_growth_nodes p0_goings p0_latestFault p0_growth_made p0_growth_endlessNode p0_growth_endlessBy p0_growth_nodes_width p0_growth_nodes_size p0_hand_rowSize p0_hand_waySize p0_net_places p0_net_steps p0_net_coloured p0_growth_nodes_cells p0_hand_row u)) hP hD hS hA [0, 4, 5, 6, 7, 8] [1, 2, 3] [3, 0, 1, 2, 4, 5, 6, 7, 8] (n := 9) (k := 6) rfl (fun _ => rfl) rfl (by decide +kernel) (fun _ => rfl) (va_runV (As := []) (rest := []) ⟨hx, hb, hml, hown, hts⟩ (c_X9_tryTheRow (l := l) (dC := dC) (dI := dI) (cI := cI) (cJ := cJ) (cZ := cZ) (sz := H.size) (h_p0 := h_p0) (ad_p0 := ad_p0) (ad_p0_hand := ad_p0_hand) (ad_p0_net := ad_p0_net) (ad_p0_trial := ad_p0_trial) (p0_goings := p0_goings) (p0_latestFault := p0_latestFault) (p0_hand_rowSize := p0_hand_rowSize) (p0_hand_waySize := p0_hand_waySize) (p0_net_places := p0_net_places) (p0_net_steps := p0_net_steps) (p0_net_coloured := p0_net_coloured) (p0_hand_row := p0_hand_row) (p0_trial_many := p0_trial_many) hw) (cwV 0 hts gX9_cover_X9_tryTheRow rfl rfl rfl (by decide +kernel) ⟨Nat.le_of_ble_eq_true rfl, Nat.le_of_ble_eq_true rfl⟩) ⟨xPre_blind, va_recv hK hP (ci := 9) (q0 := 0) rfl rfl, xPre_at hK hPc hDc n1 n2⟩ rfl rfl hl.1 rfl (lv_room (Nat.le_of_ble_eq_true rfl)) dX9_cover_14 ⟨Nat.zero_le _, Nat.zero_le _⟩) (fun u H locs hw hP hD hS => ?_)
    obtain ⟨y3, rfl⟩ : ∃ z, z = u := ⟨_, rfl⟩
    try dsimp only at hw
    have hP : va_P (dC, dI) vwCl (wld_X9_cover cI cJ cZ h_p0 ad_p0 ad_p0_growth ad_p0_growth_nodes ad_p0_hand ad_p0_net ad_p0_trial n_p0_growth_nodes p0_goings p0_latestFault p0_growth_made p0_growth_endlessNode p0_growth_endlessBy p0_growth_nodes_width p0_growth_nodes_size p0_hand_rowSize p0_hand_waySize p0_net_places p0_net_steps p0_net_coloured p0_growth_nodes_cells p0_hand_row y3) H := hP
    have hD : va_D A (wld_X9_cover cI cJ cZ h_p0 ad_p0 ad_p0_growth ad_p0_growth_nodes ad_p0_hand ad_p0_net ad_p0_trial n_p0_growth_nodes p0_goings p0_latestFault p0_growth_made p0_growth_endlessNode p0_growth_endlessBy p0_growth_nodes_width p0_growth_nodes_size p0_hand_rowSize p0_hand_waySize p0_net_places p0_net_steps p0_net_coloured p0_growth_nodes_cells p0_hand_row y3) := hD
    refine lv_iconst (v := 0) hx hb dX9_cover_17 (by decide) ?_
    refine lv_istore_n (lv' := [(1, .int (0 : Int32)), (0, .ref h_p0)]) hx hb dX9_cover_18 rfl hl (by decide) rfl (fun ls hl => ?_)
    obtain ⟨n10, hw⟩ := hw
    refine c_X9_cover_L19 (l := l)  E0 ?_ n10 _ hw _ _ _ hP hD hS (lv_sub hl [1, 0] rfl)
    · intro v11 H locs ls hw hP hD hS hl
      have hP : va_P (dC, dI) vwCl (wld_X9_cover cI cJ cZ h_p0 ad_p0 ad_p0_growth ad_p0_growth_nodes ad_p0_hand ad_p0_net ad_p0_trial n_p0_growth_nodes p0_goings p0_latestFault p0_growth_made p0_growth_endlessNode p0_growth_endlessBy p0_growth_nodes_width p0_growth_nodes_size p0_hand_rowSize p0_hand_waySize p0_net_places p0_net_steps p0_net_coloured p0_growth_nodes_cells p0_hand_row y3) H := hP
      have hD : va_D A (wld_X9_cover cI cJ cZ h_p0 ad_p0 ad_p0_growth ad_p0_growth_nodes ad_p0_hand ad_p0_net ad_p0_trial n_p0_growth_nodes p0_goings p0_latestFault p0_growth_made p0_growth_endlessNode p0_growth_endlessBy p0_growth_nodes_width p0_growth_nodes_size p0_hand_rowSize p0_hand_waySize p0_net_places p0_net_steps p0_net_coloured p0_growth_nodes_cells p0_hand_row y3) := hD
      refine lv_ldc (v := -2000000005) hx hb hown (hts (.constant RX9 75 (-2000000005)) (by decide +kernel)) dX9_cover_59 ?_
      exact x_iret (w1 := fun (u : (Nat → Int32)) => (wld_X9_cover cI cJ cZ h_p0 ad_p0 ad_p0_growth ad_p0_growth_nodes ad_p0_hand ad_p0_net ad_p0_trial n_p0_growth_nodes p0_goings p0_latestFault p0_growth_made p0_growth_endlessNode p0_growth_endlessBy p0_growth_nodes_width p0_growth_nodes_size p0_hand_rowSize p0_hand_waySize p0_net_places p0_net_steps p0_net_coloured p0_growth_nodes_cells p0_hand_row u)) hx hb hr hlocks (y3) hw hP hD hS dX9_cover_61
  · have hw := hw.2 c2
    refine lv_ldc (v := -2000000002) hx hb hown (hts (.constant RX9 113 (-2000000002)) (by decide +kernel)) dX9_cover_10 ?_
    exact x_iret (w1 := fun (u : (Nat → Int32)) => (wld_X9_cover cI cJ cZ h_p0 ad_p0 ad_p0_growth ad_p0_growth_nodes ad_p0_hand ad_p0_net ad_p0_trial n_p0_growth_nodes p0_goings p0_latestFault p0_growth_made p0_growth_endlessNode p0_growth_endlessBy p0_growth_nodes_width p0_growth_nodes_size p0_hand_rowSize p0_hand_waySize p0_net_places p0_net_steps p0_net_coloured p0_growth_nodes_cells p0_hand_row u)) hx hb hr hlocks (p0_trial_many) hw hP hD hS dX9_cover_12
abbrev wld_X9_bound (cI cJ cZ : ClassId) (h_p0 : Nat) (ad_p0 : Nat → Nat) (ad_p0_growth : Nat → Nat) (ad_p0_growth_nodes : Nat → Nat) (ad_p0_net : Nat → Nat) (n_p0_growth_nodes : Nat) (p0_goings : Int32) (p0_latestFault : Int32) (p0_growth_made : Int32) (p0_growth_endlessNode : Int32) (p0_growth_endlessBy : Int32) (p0_growth_nodes_width : Int32) (p0_growth_nodes_size : Int32) (p0_net_places : Int32) (p0_net_steps : Int32) (p0_net_coloured : Int32) (p0_growth_nodes_cells : Nat → Int32) : va_W := [(h_p0, .inr (9, [.ref (ad_p0 0), .ref (ad_p0 1), .ref (ad_p0 2), .ref (ad_p0 3), .ref (ad_p0 4), .ref (ad_p0 5), .ref (ad_p0 6), .ref (ad_p0 7), .ref (ad_p0 8), .ref (ad_p0 9), .int p0_goings, .int p0_latestFault])), ((ad_p0 6), .inr (8, [.ref (ad_p0_growth 0), .ref (ad_p0_growth 1), .ref (ad_p0_growth 2), .int p0_growth_made, .int p0_growth_endlessNode, .int p0_growth_endlessBy])), ((ad_p0_growth 0), .inr (4, [.ref (ad_p0_growth_nodes 0), .ref (ad_p0_growth_nodes 1), .ref (ad_p0_growth_nodes 2), .ref (ad_p0_growth_nodes 3), .ref (ad_p0_growth_nodes 4), .int p0_growth_nodes_width, .int p0_growth_nodes_size])), ((ad_p0_growth_nodes 0), .inl (cI, (n_p0_growth_nodes * 16), .inl p0_growth_nodes_cells)), ((ad_p0 0), .inr (5, [.ref (ad_p0_net 0), .ref (ad_p0_net 1), .ref (ad_p0_net 2), .ref (ad_p0_net 3), .ref (ad_p0_net 4), .ref (ad_p0_net 5), .ref (ad_p0_net 6), .ref (ad_p0_net 7), .ref (ad_p0_net 8), .ref (ad_p0_net 9), .ref (ad_p0_net 10), .int p0_net_places, .int p0_net_steps, .int p0_net_coloured]))]
abbrev q_X9_bound (dC : Nat → ClassId) (dI : Nat → Nat → Nat) (cI cJ cZ : ClassId) (h_p0 : Nat) (ad_p0 : Nat → Nat) (ad_p0_growth : Nat → Nat) (ad_p0_growth_nodes : Nat → Nat) (ad_p0_net : Nat → Nat) (n_p0_growth_nodes : Nat) (p0_goings : Int32) (p0_latestFault : Int32) (p0_growth_made : Int32) (p0_growth_endlessNode : Int32) (p0_growth_endlessBy : Int32) (p0_growth_nodes_width : Int32) (p0_growth_nodes_size : Int32) (p0_net_places : Int32) (p0_net_steps : Int32) (p0_net_coloured : Int32) (p0_growth_nodes_cells : Nat → Int32) (post : Int32 → Prop) (A : Nat → Prop) : Array Value → State → Outcome → State → Prop := va_Qi (fun r (u : Unit) => post r ) (fun (u : Unit) t => xPost (dC, dI) A (wld_X9_bound cI cJ cZ h_p0 ad_p0 ad_p0_growth ad_p0_growth_nodes ad_p0_net n_p0_growth_nodes p0_goings p0_latestFault p0_growth_made p0_growth_endlessNode p0_growth_endlessBy p0_growth_nodes_width p0_growth_nodes_size p0_net_places p0_net_steps p0_net_coloured p0_growth_nodes_cells) t) A
def w_X9_bound (n_p0_growth_nodes : Nat) (p0_growth_made : Int32) (p0_growth_nodes_size : Int32) (p0_growth_nodes_width : Int32) (p0_net_places : Int32) (p0_growth_nodes_cells : Nat → Int32) (a1 : Int32) (post : Int32 → Prop) : Prop :=
  w_X5_hasPlace p0_net_places a1 (fun r1 =>
  (¬ r1 = 0 →
    (p0_growth_made = 0 →
      (post (-2000000002 : Int32))) ∧
    (¬ p0_growth_made = 0 →
      w_X4_mostAt n_p0_growth_nodes p0_growth_nodes_size p0_growth_nodes_width p0_growth_nodes_cells a1 (fun r6 =>
      w_X9_asTold r6 (fun r7 =>
      (post r7))))) ∧
  (r1 = 0 →
    (post (-2000000001 : Int32))))
set_option maxHeartbeats 4000000 in
set_option maxRecDepth 100000 in
theorem c_X9_bound {l : Launch} {dC : Nat → ClassId} {dI : Nat → Nat → Nat} {sz : Nat} {cI cJ cZ : ClassId} {h_p0 : Nat} {ad_p0 : Nat → Nat} {ad_p0_growth : Nat → Nat} {ad_p0_growth_nodes : Nat → Nat} {ad_p0_net : Nat → Nat} {n_p0_growth_nodes : Nat} {p0_goings : Int32} {p0_latestFault : Int32} {p0_growth_made : Int32} {p0_growth_endlessNode : Int32} {p0_growth_endlessBy : Int32} {p0_growth_nodes_width : Int32} {p0_growth_nodes_size : Int32} {p0_net_places : Int32} {p0_net_steps : Int32} {p0_net_coloured : Int32} {p0_growth_nodes_cells : Nat → Int32} {a1 : Int32} {post : Int32 → Prop} (hw : w_X9_bound n_p0_growth_nodes p0_growth_made p0_growth_nodes_size p0_growth_nodes_width p0_net_places p0_growth_nodes_cells a1 post) : Met l yX9_bound wsX9_bound ({ frames := 2, cells := 0, slots := 0, locals := 53 }) (va_Pc [.ref h_p0, .int a1] (xPre (dC, dI) cI cJ cZ (wld_X9_bound cI cJ cZ h_p0 ad_p0 ad_p0_growth ad_p0_growth_nodes ad_p0_net n_p0_growth_nodes p0_goings p0_latestFault p0_growth_made p0_growth_endlessNode p0_growth_endlessBy p0_growth_nodes_width p0_growth_nodes_size p0_net_places p0_net_steps p0_net_coloured p0_growth_nodes_cells) sz)) (q_X9_bound dC dI cI cJ cZ h_p0 ad_p0 ad_p0_growth ad_p0_growth_nodes ad_p0_net n_p0_growth_nodes p0_goings p0_latestFault p0_growth_made p0_growth_endlessNode p0_growth_endlessBy p0_growth_nodes_width p0_growth_nodes_size p0_net_places p0_net_steps p0_net_coloured p0_growth_nodes_cells post (va_A (wld_X9_bound cI cJ cZ h_p0 ad_p0 ad_p0_growth ad_p0_growth_nodes ad_p0_net n_p0_growth_nodes p0_goings p0_latestFault p0_growth_made p0_growth_endlessNode p0_growth_endlessBy p0_growth_nodes_width p0_growth_nodes_size p0_net_places p0_net_steps p0_net_coloured p0_growth_nodes_cells) sz)) 0 0 (va_A (wld_X9_bound cI cJ cZ h_p0 ad_p0 ad_p0_growth ad_p0_growth_nodes ad_p0_net n_p0_growth_nodes p0_goings p0_latestFault p0_growth_made p0_growth_endlessNode p0_growth_endlessBy p0_growth_nodes_width p0_growth_nodes_size p0_net_places p0_net_steps p0_net_coloured p0_growth_nodes_cells) sz) := by
  refine x_met (cc := cX9_bound) (maxL := 2) (ret := (some .int)) (own := RX9) (Qc := fun A => (q_X9_bound dC dI cI cJ cZ h_p0 ad_p0 ad_p0_growth ad_p0_growth_nodes ad_p0_net n_p0_growth_nodes p0_goings p0_latestFault p0_growth_made p0_growth_endlessNode p0_growth_endlessBy p0_growth_nodes_width p0_growth_nodes_size p0_net_places p0_net_steps p0_net_coloured p0_growth_nodes_cells post A)) (by decide) rfl rfl (Nat.le_of_ble_eq_true rfl) ?_
  intro p e s m args below meth c A ls E0 hP hD hS hl
  obtain ⟨hx, hb, hr, hml, hown, hts, hlocks, hK, hA, n1, n2⟩ := id E0
  have iX4 : ∀ w ∈ u_ws RX4 TX4 7, w ∈ wsX9_bound := fun w h => List.mem_cons_of_mem _ (List.mem_append_right _ h)
  have iX5 : ∀ w ∈ u_ws RX5 TX5 14, w ∈ wsX9_bound := fun w h => List.mem_cons_of_mem _ (List.mem_append_left _ (List.mem_append_right _ h))
  have iX8 : ∀ w ∈ u_ws RX8 TX8 6, w ∈ wsX9_bound := fun w h => List.mem_cons_of_mem _ (List.mem_append_left _ (List.mem_append_left _ (List.mem_append_right _ h)))
  have iX9 : ∀ w ∈ u_ws RX9 TX9 12, w ∈ wsX9_bound := fun w h => List.mem_cons_of_mem _ (List.mem_append_left _ (List.mem_append_left _ (List.mem_append_left _ (List.mem_append_right _ h))))
  have hS0 := hS
  have hl : lv_has ls 2 [(0, .ref h_p0), (1, .int a1)] := hl
  unfold w_X9_bound at hw
  obtain ⟨H, hH⟩ : ∃ H, H = s.heap := ⟨_, rfl⟩
  have hS : va_S A s.heap H [] := by rw [hH]; exact hS
  have hP : va_P (dC, dI) vwCl (wld_X9_bound cI cJ cZ h_p0 ad_p0 ad_p0_growth ad_p0_growth_nodes ad_p0_net n_p0_growth_nodes p0_goings p0_latestFault p0_growth_made p0_growth_endlessNode p0_growth_endlessBy p0_growth_nodes_width p0_growth_nodes_size p0_net_places p0_net_steps p0_net_coloured p0_growth_nodes_cells) H := by rw [hH]; exact hP
  suffices hG : W p l e ({ frames := 2, cells := 0, slots := 0, locals := 53 }) s m args below meth c H [] 0 0 (MQ below (q_X9_bound dC dI cI cJ cZ h_p0 ad_p0 ad_p0_growth ad_p0_growth_nodes ad_p0_net n_p0_growth_nodes p0_goings p0_latestFault p0_growth_made p0_growth_endlessNode p0_growth_endlessBy p0_growth_nodes_width p0_growth_nodes_size p0_net_places p0_net_steps p0_net_coloured p0_growth_nodes_cells post A) args s 0 0 A) (F0 m 0 ls []) by rw [hH] at hG; exact hG
  clear hH
  refine lv_aload_n hx hb dX9_bound_0 rfl (lv_at hl 0 rfl) ?_
  refine va_get (D := (dC, dI)) (ci := 9) (v := .ref (ad_p0 0)) (C := RX9) (T := TX9) (N := 12) hx hb hts iX9 hown hK hP 0 rfl rfl 0 (by decide) (hts (.fieldLink RX9 10 "NetHouse" "net" "LNetHouse$Net;") (by decide +kernel)) (fun _ h9 => h9) rfl dX9_bound_1 ?_
  refine lv_iload_n hx hb dX9_bound_4 rfl (lv_at hl 1 rfl) ?_
  obtain ⟨hPc, hDc⟩ := x_sub (wc := (wld_X5_hasPlace cI cJ cZ (ad_p0 0) ad_p0_net p0_net_places p0_net_steps p0_net_coloured)) hP hD [4] (n := 5) rfl rfl (by decide +kernel)
  refine x_calli (ws' := fun (u : Unit) => (wld_X9_bound cI cJ cZ h_p0 ad_p0 ad_p0_growth ad_p0_growth_nodes ad_p0_net n_p0_growth_nodes p0_goings p0_latestFault p0_growth_made p0_growth_endlessNode p0_growth_endlessBy p0_growth_nodes_width p0_growth_nodes_size p0_net_places p0_net_steps p0_net_coloured p0_growth_nodes_cells)) hP hD hS hA [4] [0, 1, 2, 3] [0, 1, 2, 3, 4] (n := 5) (k := 1) rfl (fun _ => rfl) rfl (by decide +kernel) (fun _ => rfl) (va_runV (As := [.int a1]) (rest := []) ⟨hx, hb, hml, hown, hts⟩ (c_X5_hasPlace (l := l) (dC := dC) (dI := dI) (cI := cI) (cJ := cJ) (cZ := cZ) (sz := H.size) (h_p0 := (ad_p0 0)) (ad_p0 := ad_p0_net) (p0_places := p0_net_places) (p0_steps := p0_net_steps) (p0_coloured := p0_net_coloured) hw) (cwV 1 hts gX9_bound_X5_hasPlace rfl rfl rfl (by decide +kernel) ⟨Nat.le_of_ble_eq_true rfl, Nat.le_of_ble_eq_true rfl⟩) ⟨xPre_blind, va_recv hK hP (ci := 5) (q0 := 4) rfl rfl, xPre_at hK hPc hDc n1 n2⟩ rfl rfl hl.1 rfl (lv_room (Nat.le_of_ble_eq_true rfl)) dX9_bound_5 ⟨Nat.zero_le _, Nat.zero_le _⟩) (fun r1 u H locs hw hP hD hS => ?_)
  try dsimp only at hw
  have hP : va_P (dC, dI) vwCl (wld_X9_bound cI cJ cZ h_p0 ad_p0 ad_p0_growth ad_p0_growth_nodes ad_p0_net n_p0_growth_nodes p0_goings p0_latestFault p0_growth_made p0_growth_endlessNode p0_growth_endlessBy p0_growth_nodes_width p0_growth_nodes_size p0_net_places p0_net_steps p0_net_coloured p0_growth_nodes_cells) H := hP
  have hD : va_D A (wld_X9_bound cI cJ cZ h_p0 ad_p0 ad_p0_growth ad_p0_growth_nodes ad_p0_net n_p0_growth_nodes p0_goings p0_latestFault p0_growth_made p0_growth_endlessNode p0_growth_endlessBy p0_growth_nodes_width p0_growth_nodes_size p0_net_places p0_net_steps p0_net_coloured p0_growth_nodes_cells) := hD
  refine lv_if_ne (tgt := 14) hx hb dX9_bound_8 (by decide) (fun c2 => ?_) (fun c3 => ?_)
  · have hw := hw.1 c2
    refine lv_aload_n hx hb dX9_bound_14 rfl (lv_at hl 0 rfl) ?_
    refine va_get (D := (dC, dI)) (ci := 9) (v := .ref (ad_p0 6)) (C := RX9) (T := TX9) (N := 12) hx hb hts iX9 hown hK hP 0 rfl rfl 6 (by decide) (hts (.fieldLink RX9 50 "NetHouse" "growth" "LNetHouse$Tree;") (by decide +kernel)) (fun _ h9 => h9) rfl dX9_bound_15 ?_
    refine va_get (D := (dC, dI)) (ci := 8) (v := .int p0_growth_made) (C := RX8) (T := TX8) (N := 6) hx hb hts iX8 hown hK hP 1 rfl rfl 3 (by decide) (hts (.fieldLink RX9 319 "NetHouse$Tree" "made" "Z") (by decide +kernel)) (fun _ h9 => h9) rfl dX9_bound_18 ?_
    refine lv_if_eq (tgt := 41) hx hb dX9_bound_21 (by decide) (fun c4 => ?_) (fun c5 => ?_)
    · have hw := hw.1 c4
      refine lv_ldc (v := -2000000002) hx hb hown (hts (.constant RX9 113 (-2000000002)) (by decide +kernel)) dX9_bound_41 ?_
      exact x_iret (w1 := fun (u : Unit) => (wld_X9_bound cI cJ cZ h_p0 ad_p0 ad_p0_growth ad_p0_growth_nodes ad_p0_net n_p0_growth_nodes p0_goings p0_latestFault p0_growth_made p0_growth_endlessNode p0_growth_endlessBy p0_growth_nodes_width p0_growth_nodes_size p0_net_places p0_net_steps p0_net_coloured p0_growth_nodes_cells)) hx hb hr hlocks () hw hP hD hS dX9_bound_43
    · have hw := hw.2 c5
      refine lv_aload_n hx hb dX9_bound_24 rfl (lv_at hl 0 rfl) ?_
      refine va_get (D := (dC, dI)) (ci := 9) (v := .ref (ad_p0 6)) (C := RX9) (T := TX9) (N := 12) hx hb hts iX9 hown hK hP 0 rfl rfl 6 (by decide) (hts (.fieldLink RX9 50 "NetHouse" "growth" "LNetHouse$Tree;") (by decide +kernel)) (fun _ h9 => h9) rfl dX9_bound_25 ?_
      refine va_get (D := (dC, dI)) (ci := 8) (v := .ref (ad_p0_growth 0)) (C := RX8) (T := TX8) (N := 6) hx hb hts iX8 hown hK hP 1 rfl rfl 0 (by decide) (hts (.fieldLink RX9 303 "NetHouse$Tree" "nodes" "LNetHouse$Markings;") (by decide +kernel)) (fun _ h9 => h9) rfl dX9_bound_28 ?_
      refine lv_iload_n hx hb dX9_bound_31 rfl (lv_at hl 1 rfl) ?_
      obtain ⟨hPc, hDc⟩ := x_sub (wc := (wld_X4_mostAt cI cJ cZ (ad_p0_growth 0) ad_p0_growth_nodes n_p0_growth_nodes p0_growth_nodes_width p0_growth_nodes_size p0_growth_nodes_cells)) hP hD [2, 3] (n := 5) rfl rfl (by decide +kernel)
      refine x_calli (ws' := fun (u : Unit) => (wld_X9_bound cI cJ cZ h_p0 ad_p0 ad_p0_growth ad_p0_growth_nodes ad_p0_net n_p0_growth_nodes p0_goings p0_latestFault p0_growth_made p0_growth_endlessNode p0_growth_endlessBy p0_growth_nodes_width p0_growth_nodes_size p0_net_places p0_net_steps p0_net_coloured p0_growth_nodes_cells)) hP hD hS hA [2, 3] [0, 1, 4] [0, 1, 3, 4, 2] (n := 5) (k := 2) rfl (fun _ => rfl) rfl (by decide +kernel) (fun _ => rfl) (va_runV (As := [.int a1]) (rest := []) ⟨hx, hb, hml, hown, hts⟩ (c_X4_mostAt (l := l) (dC := dC) (dI := dI) (cI := cI) (cJ := cJ) (cZ := cZ) (sz := H.size) (h_p0 := (ad_p0_growth 0)) (ad_p0 := ad_p0_growth_nodes) (n_p0 := n_p0_growth_nodes) (p0_width := p0_growth_nodes_width) (p0_size := p0_growth_nodes_size) (p0_cells := p0_growth_nodes_cells) hw) (cwV 1 hts gX9_bound_X4_mostAt rfl rfl rfl (by decide +kernel) ⟨Nat.le_of_ble_eq_true rfl, Nat.le_of_ble_eq_true rfl⟩) ⟨xPre_blind, va_recv hK hP (ci := 4) (q0 := 2) rfl rfl, xPre_at hK hPc hDc n1 n2⟩ rfl rfl hl.1 rfl (lv_room (Nat.le_of_ble_eq_true rfl)) dX9_bound_32 ⟨Nat.zero_le _, Nat.zero_le _⟩) (fun r6 u H locs hw hP hD hS => ?_)
      try dsimp only at hw
      have hP : va_P (dC, dI) vwCl (wld_X9_bound cI cJ cZ h_p0 ad_p0 ad_p0_growth ad_p0_growth_nodes ad_p0_net n_p0_growth_nodes p0_goings p0_latestFault p0_growth_made p0_growth_endlessNode p0_growth_endlessBy p0_growth_nodes_width p0_growth_nodes_size p0_net_places p0_net_steps p0_net_coloured p0_growth_nodes_cells) H := hP
      have hD : va_D A (wld_X9_bound cI cJ cZ h_p0 ad_p0 ad_p0_growth ad_p0_growth_nodes ad_p0_net n_p0_growth_nodes p0_goings p0_latestFault p0_growth_made p0_growth_endlessNode p0_growth_endlessBy p0_growth_nodes_width p0_growth_nodes_size p0_net_places p0_net_steps p0_net_coloured p0_growth_nodes_cells) := hD
      obtain ⟨hPc, hDc⟩ := x_sub (wc := (wld_X9_asTold cI cJ cZ )) hP hD [] (n := 5) rfl rfl (by decide +kernel)
      refine x_calli (ws' := fun (u : Unit) => (wld_X9_bound cI cJ cZ h_p0 ad_p0 ad_p0_growth ad_p0_growth_nodes ad_p0_net n_p0_growth_nodes p0_goings p0_latestFault p0_growth_made p0_growth_endlessNode p0_growth_endlessBy p0_growth_nodes_width p0_growth_nodes_size p0_net_places p0_net_steps p0_net_coloured p0_growth_nodes_cells)) hP hD hS hA [] [0, 1, 2, 3, 4] [0, 1, 2, 3, 4] (n := 5) (k := 0) rfl (fun _ => rfl) rfl (by decide +kernel) (fun _ => rfl) (va_runS (As := [.int r6]) (rest := []) ⟨hx, hb, hml, hown, hts⟩ (c_X9_asTold (l := l) (dC := dC) (dI := dI) (cI := cI) (cJ := cJ) (cZ := cZ) (sz := H.size) hw) (va_cwS 1 hts gX9_bound_X9_asTold rfl rfl rfl (by decide +kernel) ⟨Nat.le_of_ble_eq_true rfl, Nat.le_of_ble_eq_true rfl⟩) ⟨xPre_blind, xPre_at hK hPc hDc n1 n2⟩ rfl rfl hl.1 rfl (lv_room (Nat.le_of_ble_eq_true rfl)) dX9_bound_35 ⟨Nat.zero_le _, Nat.zero_le _⟩) (fun r7 u H locs hw hP hD hS => ?_)
      try dsimp only at hw
      have hP : va_P (dC, dI) vwCl (wld_X9_bound cI cJ cZ h_p0 ad_p0 ad_p0_growth ad_p0_growth_nodes ad_p0_net n_p0_growth_nodes p0_goings p0_latestFault p0_growth_made p0_growth_endlessNode p0_growth_endlessBy p0_growth_nodes_width p0_growth_nodes_size p0_net_places p0_net_steps p0_net_coloured p0_growth_nodes_cells) H := hP
      have hD : va_D A (wld_X9_bound cI cJ cZ h_p0 ad_p0 ad_p0_growth ad_p0_growth_nodes ad_p0_net n_p0_growth_nodes p0_goings p0_latestFault p0_growth_made p0_growth_endlessNode p0_growth_endlessBy p0_growth_nodes_width p0_growth_nodes_size p0_net_places p0_net_steps p0_net_coloured p0_growth_nodes_cells) := hD
      refine lv_goto (tgt := 43) hx hb dX9_bound_38 (by decide) ?_
      exact x_iret (w1 := fun (u : Unit) => (wld_X9_bound cI cJ cZ h_p0 ad_p0 ad_p0_growth ad_p0_growth_nodes ad_p0_net n_p0_growth_nodes p0_goings p0_latestFault p0_growth_made p0_growth_endlessNode p0_growth_endlessBy p0_growth_nodes_width p0_growth_nodes_size p0_net_places p0_net_steps p0_net_coloured p0_growth_nodes_cells)) hx hb hr hlocks () hw hP hD hS dX9_bound_43
  · have hw := hw.2 c3
    refine lv_ldc (v := -2000000001) hx hb hown (hts (.constant RX9 79 (-2000000001)) (by decide +kernel)) dX9_bound_11 ?_
    exact x_iret (w1 := fun (u : Unit) => (wld_X9_bound cI cJ cZ h_p0 ad_p0 ad_p0_growth ad_p0_growth_nodes ad_p0_net n_p0_growth_nodes p0_goings p0_latestFault p0_growth_made p0_growth_endlessNode p0_growth_endlessBy p0_growth_nodes_width p0_growth_nodes_size p0_net_places p0_net_steps p0_net_coloured p0_growth_nodes_cells)) hx hb hr hlocks () hw hP hD hS dX9_bound_13
abbrev wld_X9_pump (cI cJ cZ : ClassId) (h_p0 : Nat) (ad_p0 : Nat → Nat) (ad_p0_growth : Nat → Nat) (ad_p0_growth_nodes : Nat → Nat) (ad_p0_hand : Nat → Nat) (n_p0_growth_nodes : Nat) (p0_goings : Int32) (p0_latestFault : Int32) (p0_growth_made : Int32) (p0_growth_endlessNode : Int32) (p0_growth_endlessBy : Int32) (p0_growth_nodes_width : Int32) (p0_growth_nodes_size : Int32) (p0_hand_rowSize : Int32) (p0_hand_waySize : Int32) (p0_growth_nodes_by : Nat → Int32) (p0_growth_nodes_former : Nat → Int32) (p0_hand_way : Nat → Int32) : va_W := [(h_p0, .inr (9, [.ref (ad_p0 0), .ref (ad_p0 1), .ref (ad_p0 2), .ref (ad_p0 3), .ref (ad_p0 4), .ref (ad_p0 5), .ref (ad_p0 6), .ref (ad_p0 7), .ref (ad_p0 8), .ref (ad_p0 9), .int p0_goings, .int p0_latestFault])), ((ad_p0 6), .inr (8, [.ref (ad_p0_growth 0), .ref (ad_p0_growth 1), .ref (ad_p0_growth 2), .int p0_growth_made, .int p0_growth_endlessNode, .int p0_growth_endlessBy])), ((ad_p0_growth 0), .inr (4, [.ref (ad_p0_growth_nodes 0), .ref (ad_p0_growth_nodes 1), .ref (ad_p0_growth_nodes 2), .ref (ad_p0_growth_nodes 3), .ref (ad_p0_growth_nodes 4), .int p0_growth_nodes_width, .int p0_growth_nodes_size])), ((ad_p0_growth_nodes 2), .inl (cI, n_p0_growth_nodes, .inl p0_growth_nodes_by)), ((ad_p0_growth_nodes 1), .inl (cI, n_p0_growth_nodes, .inl p0_growth_nodes_former)), ((ad_p0 4), .inr (2, [.ref (ad_p0_hand 0), .ref (ad_p0_hand 1), .int p0_hand_rowSize, .int p0_hand_waySize])), ((ad_p0_hand 1), .inl (cI, 8000, .inl p0_hand_way))]
abbrev q_X9_pump (dC : Nat → ClassId) (dI : Nat → Nat → Nat) (cI cJ cZ : ClassId) (h_p0 : Nat) (ad_p0 : Nat → Nat) (ad_p0_growth : Nat → Nat) (ad_p0_growth_nodes : Nat → Nat) (ad_p0_hand : Nat → Nat) (n_p0_growth_nodes : Nat) (p0_goings : Int32) (p0_latestFault : Int32) (p0_growth_made : Int32) (p0_growth_endlessNode : Int32) (p0_growth_endlessBy : Int32) (p0_growth_nodes_width : Int32) (p0_growth_nodes_size : Int32) (p0_hand_rowSize : Int32) (p0_hand_waySize : Int32) (p0_growth_nodes_by : Nat → Int32) (p0_growth_nodes_former : Nat → Int32) (p0_hand_way : Nat → Int32) (post : Int32 → (Int32) → (Nat → Int32) → Prop) (A : Nat → Prop) : Array Value → State → Outcome → State → Prop := va_Qi (fun r (u : (Int32) × (Nat → Int32)) => post r (u.1) (u.2)) (fun (u : (Int32) × (Nat → Int32)) t => xPost (dC, dI) A (wld_X9_pump cI cJ cZ h_p0 ad_p0 ad_p0_growth ad_p0_growth_nodes ad_p0_hand n_p0_growth_nodes p0_goings p0_latestFault p0_growth_made p0_growth_endlessNode p0_growth_endlessBy p0_growth_nodes_width p0_growth_nodes_size p0_hand_rowSize (u.1) p0_growth_nodes_by p0_growth_nodes_former (u.2)) t) A
def w_X9_pump (n_p0_growth_nodes : Nat) (p0_growth_endlessBy : Int32) (p0_growth_endlessNode : Int32) (p0_growth_made : Int32) (p0_growth_nodes_size : Int32) (p0_hand_waySize : Int32) (p0_growth_nodes_by : Nat → Int32) (p0_growth_nodes_former : Nat → Int32) (p0_hand_way : Nat → Int32) (post : Int32 → (Int32) → (Nat → Int32) → Prop) : Prop :=
  (¬ p0_growth_made = 0 →
    (0 ≤ p0_growth_endlessNode →
      w_X4_retrace n_p0_growth_nodes p0_growth_nodes_size p0_hand_waySize p0_growth_nodes_by p0_growth_nodes_former p0_hand_way p0_growth_endlessNode (fun y5 y6 =>
      w_X4_depthOf n_p0_growth_nodes p0_growth_nodes_size p0_growth_nodes_former p0_growth_endlessBy (fun r7 =>
      (post r7 y5 y6)))) ∧
    (¬ 0 ≤ p0_growth_endlessNode →
      (post (-2000000005 : Int32) p0_hand_waySize p0_hand_way))) ∧
  (p0_growth_made = 0 →
    (post (-2000000002 : Int32) p0_hand_waySize p0_hand_way))
set_option maxHeartbeats 4000000 in
set_option maxRecDepth 100000 in
theorem c_X9_pump {l : Launch} {dC : Nat → ClassId} {dI : Nat → Nat → Nat} {sz : Nat} {cI cJ cZ : ClassId} {h_p0 : Nat} {ad_p0 : Nat → Nat} {ad_p0_growth : Nat → Nat} {ad_p0_growth_nodes : Nat → Nat} {ad_p0_hand : Nat → Nat} {n_p0_growth_nodes : Nat} {p0_goings : Int32} {p0_latestFault : Int32} {p0_growth_made : Int32} {p0_growth_endlessNode : Int32} {p0_growth_endlessBy : Int32} {p0_growth_nodes_width : Int32} {p0_growth_nodes_size : Int32} {p0_hand_rowSize : Int32} {p0_hand_waySize : Int32} {p0_growth_nodes_by : Nat → Int32} {p0_growth_nodes_former : Nat → Int32} {p0_hand_way : Nat → Int32}  {post : Int32 → (Int32) → (Nat → Int32) → Prop} (hw : w_X9_pump n_p0_growth_nodes p0_growth_endlessBy p0_growth_endlessNode p0_growth_made p0_growth_nodes_size p0_hand_waySize p0_growth_nodes_by p0_growth_nodes_former p0_hand_way post) : Met l yX9_pump wsX9_pump ({ frames := 2, cells := 0, slots := 0, locals := 48 }) (va_Pc [.ref h_p0] (xPre (dC, dI) cI cJ cZ (wld_X9_pump cI cJ cZ h_p0 ad_p0 ad_p0_growth ad_p0_growth_nodes ad_p0_hand n_p0_growth_nodes p0_goings p0_latestFault p0_growth_made p0_growth_endlessNode p0_growth_endlessBy p0_growth_nodes_width p0_growth_nodes_size p0_hand_rowSize p0_hand_waySize p0_growth_nodes_by p0_growth_nodes_former p0_hand_way) sz)) (q_X9_pump dC dI cI cJ cZ h_p0 ad_p0 ad_p0_growth ad_p0_growth_nodes ad_p0_hand n_p0_growth_nodes p0_goings p0_latestFault p0_growth_made p0_growth_endlessNode p0_growth_endlessBy p0_growth_nodes_width p0_growth_nodes_size p0_hand_rowSize p0_hand_waySize p0_growth_nodes_by p0_growth_nodes_former p0_hand_way post (va_A (wld_X9_pump cI cJ cZ h_p0 ad_p0 ad_p0_growth ad_p0_growth_nodes ad_p0_hand n_p0_growth_nodes p0_goings p0_latestFault p0_growth_made p0_growth_endlessNode p0_growth_endlessBy p0_growth_nodes_width p0_growth_nodes_size p0_hand_rowSize p0_hand_waySize p0_growth_nodes_by p0_growth_nodes_former p0_hand_way) sz)) 0 0 (va_A (wld_X9_pump cI cJ cZ h_p0 ad_p0 ad_p0_growth ad_p0_growth_nodes ad_p0_hand n_p0_growth_nodes p0_goings p0_latestFault p0_growth_made p0_growth_endlessNode p0_growth_endlessBy p0_growth_nodes_width p0_growth_nodes_size p0_hand_rowSize p0_hand_waySize p0_growth_nodes_by p0_growth_nodes_former p0_hand_way) sz) := by
  refine x_met (cc := cX9_pump) (maxL := 1) (ret := (some .int)) (own := RX9) (Qc := fun A => (q_X9_pump dC dI cI cJ cZ h_p0 ad_p0 ad_p0_growth ad_p0_growth_nodes ad_p0_hand n_p0_growth_nodes p0_goings p0_latestFault p0_growth_made p0_growth_endlessNode p0_growth_endlessBy p0_growth_nodes_width p0_growth_nodes_size p0_hand_rowSize p0_hand_waySize p0_growth_nodes_by p0_growth_nodes_former p0_hand_way post A)) (by decide) rfl rfl (Nat.le_of_ble_eq_true rfl) ?_
  intro p e s m args below meth c A ls E0 hP hD hS hl
  obtain ⟨hx, hb, hr, hml, hown, hts, hlocks, hK, hA, n1, n2⟩ := id E0
  have iX2 : ∀ w ∈ u_ws RX2 TX2 4, w ∈ wsX9_pump := fun w h => List.mem_cons_of_mem _ (List.mem_append_left _ (List.mem_append_right _ h))
  have iX4 : ∀ w ∈ u_ws RX4 TX4 7, w ∈ wsX9_pump := fun w h => List.mem_cons_of_mem _ (List.mem_append_right _ h)
  have iX8 : ∀ w ∈ u_ws RX8 TX8 6, w ∈ wsX9_pump := fun w h => List.mem_cons_of_mem _ (List.mem_append_left _ (List.mem_append_left _ (List.mem_append_right _ h)))
  have iX9 : ∀ w ∈ u_ws RX9 TX9 12, w ∈ wsX9_pump := fun w h => List.mem_cons_of_mem _ (List.mem_append_left _ (List.mem_append_left _ (List.mem_append_left _ (List.mem_append_right _ h))))
  have hS0 := hS
  have hl : lv_has ls 1 [(0, .ref h_p0)] := hl
  unfold w_X9_pump at hw
  obtain ⟨H, hH⟩ : ∃ H, H = s.heap := ⟨_, rfl⟩
  have hS : va_S A s.heap H [] := by rw [hH]; exact hS
  have hP : va_P (dC, dI) vwCl (wld_X9_pump cI cJ cZ h_p0 ad_p0 ad_p0_growth ad_p0_growth_nodes ad_p0_hand n_p0_growth_nodes p0_goings p0_latestFault p0_growth_made p0_growth_endlessNode p0_growth_endlessBy p0_growth_nodes_width p0_growth_nodes_size p0_hand_rowSize p0_hand_waySize p0_growth_nodes_by p0_growth_nodes_former p0_hand_way) H := by rw [hH]; exact hP
  suffices hG : W p l e ({ frames := 2, cells := 0, slots := 0, locals := 48 }) s m args below meth c H [] 0 0 (MQ below (q_X9_pump dC dI cI cJ cZ h_p0 ad_p0 ad_p0_growth ad_p0_growth_nodes ad_p0_hand n_p0_growth_nodes p0_goings p0_latestFault p0_growth_made p0_growth_endlessNode p0_growth_endlessBy p0_growth_nodes_width p0_growth_nodes_size p0_hand_rowSize p0_hand_waySize p0_growth_nodes_by p0_growth_nodes_former p0_hand_way post A) args s 0 0 A) (F0 m 0 ls []) by rw [hH] at hG; exact hG
  clear hH
  refine lv_aload_n hx hb dX9_pump_0 rfl (lv_at hl 0 rfl) ?_
  refine va_get (D := (dC, dI)) (ci := 9) (v := .ref (ad_p0 6)) (C := RX9) (T := TX9) (N := 12) hx hb hts iX9 hown hK hP 0 rfl rfl 6 (by decide) (hts (.fieldLink RX9 50 "NetHouse" "growth" "LNetHouse$Tree;") (by decide +kernel)) (fun _ h9 => h9) rfl dX9_pump_1 ?_
  refine va_get (D := (dC, dI)) (ci := 8) (v := .int p0_growth_made) (C := RX8) (T := TX8) (N := 6) hx hb hts iX8 hown hK hP 1 rfl rfl 3 (by decide) (hts (.fieldLink RX9 319 "NetHouse$Tree" "made" "Z") (by decide +kernel)) (fun _ h9 => h9) rfl dX9_pump_4 ?_
  refine lv_if_ne (tgt := 13) hx hb dX9_pump_7 (by decide) (fun c1 => ?_) (fun c2 => ?_)
  · have hw := hw.1 c1
    refine lv_aload_n hx hb dX9_pump_13 rfl (lv_at hl 0 rfl) ?_
    refine va_get (D := (dC, dI)) (ci := 9) (v := .ref (ad_p0 6)) (C := RX9) (T := TX9) (N := 12) hx hb hts iX9 hown hK hP 0 rfl rfl 6 (by decide) (hts (.fieldLink RX9 50 "NetHouse" "growth" "LNetHouse$Tree;") (by decide +kernel)) (fun _ h9 => h9) rfl dX9_pump_14 ?_
    refine va_get (D := (dC, dI)) (ci := 8) (v := .int p0_growth_endlessNode) (C := RX8) (T := TX8) (N := 6) hx hb hts iX8 hown hK hP 1 rfl rfl 4 (by decide) (hts (.fieldLink RX9 327 "NetHouse$Tree" "endlessNode" "I") (by decide +kernel)) (fun _ h9 => h9) rfl dX9_pump_17 ?_
    refine lv_if_ge (tgt := 26) hx hb dX9_pump_20 (by decide) (fun c3 => ?_) (fun c4 => ?_)
    · have hw := hw.1 c3
      refine lv_aload_n hx hb dX9_pump_26 rfl (lv_at hl 0 rfl) ?_
      refine va_get (D := (dC, dI)) (ci := 9) (v := .ref (ad_p0 6)) (C := RX9) (T := TX9) (N := 12) hx hb hts iX9 hown hK hP 0 rfl rfl 6 (by decide) (hts (.fieldLink RX9 50 "NetHouse" "growth" "LNetHouse$Tree;") (by decide +kernel)) (fun _ h9 => h9) rfl dX9_pump_27 ?_
      refine va_get (D := (dC, dI)) (ci := 8) (v := .ref (ad_p0_growth 0)) (C := RX8) (T := TX8) (N := 6) hx hb hts iX8 hown hK hP 1 rfl rfl 0 (by decide) (hts (.fieldLink RX9 303 "NetHouse$Tree" "nodes" "LNetHouse$Markings;") (by decide +kernel)) (fun _ h9 => h9) rfl dX9_pump_30 ?_
      refine lv_aload_n hx hb dX9_pump_33 rfl (lv_at hl 0 rfl) ?_
      refine va_get (D := (dC, dI)) (ci := 9) (v := .ref (ad_p0 6)) (C := RX9) (T := TX9) (N := 12) hx hb hts iX9 hown hK hP 0 rfl rfl 6 (by decide) (hts (.fieldLink RX9 50 "NetHouse" "growth" "LNetHouse$Tree;") (by decide +kernel)) (fun _ h9 => h9) rfl dX9_pump_34 ?_
      refine va_get (D := (dC, dI)) (ci := 8) (v := .int p0_growth_endlessNode) (C := RX8) (T := TX8) (N := 6) hx hb hts iX8 hown hK hP 1 rfl rfl 4 (by decide) (hts (.fieldLink RX9 327 "NetHouse$Tree" "endlessNode" "I") (by decide +kernel)) (fun _ h9 => h9) rfl dX9_pump_37 ?_
      refine lv_aload_n hx hb dX9_pump_40 rfl (lv_at hl 0 rfl) ?_
      refine va_get (D := (dC, dI)) (ci := 9) (v := .ref (ad_p0 4)) (C := RX9) (T := TX9) (N := 12) hx hb hts iX9 hown hK hP 0 rfl rfl 4 (by decide) (hts (.fieldLink RX9 36 "NetHouse" "hand" "LNetHouse$Hand;") (by decide +kernel)) (fun _ h9 => h9) rfl dX9_pump_41 ?_
      obtain ⟨hPc, hDc⟩ := x_sub (wc := (wld_X4_retrace cI cJ cZ (ad_p0_growth 0) (ad_p0 4) ad_p0_growth_nodes ad_p0_hand n_p0_growth_nodes p0_growth_nodes_width p0_growth_nodes_size p0_hand_rowSize p0_hand_waySize p0_growth_nodes_by p0_growth_nodes_former p0_hand_way)) hP hD [2, 3, 4, 5, 6] (n := 7) rfl rfl (by decide +kernel)
      refine x_callv (ws' := fun (u : (Int32) × (Nat → Int32)) => (wld_X9_pump cI cJ cZ h_p0 ad_p0 ad_p0_growth ad_p0_growth_nodes ad_p0_hand n_p0_growth_nodes p0_goings p0_latestFault p0_growth_made p0_growth_endlessNode p0_growth_endlessBy p0_growth_nodes_width p0_growth_nodes_size p0_hand_rowSize (u.1) p0_growth_nodes_by p0_growth_nodes_former (u.2))) hP hD hS hA [2, 3, 4, 5, 6] [0, 1] [0, 1, 2, 3, 4, 5, 6] (n := 7) (k := 5) rfl (fun _ => rfl) rfl (by decide +kernel) (fun _ => rfl) (va_runV (As := [.int p0_growth_endlessNode, .ref (ad_p0 4)]) (rest := []) ⟨hx, hb, hml, hown, hts⟩ (c_X4_retrace (l := l) (dC := dC) (dI := dI) (cI := cI) (cJ := cJ) (cZ := cZ) (sz := H.size) (h_p0 := (ad_p0_growth 0)) (h_p2 := (ad_p0 4)) (ad_p0 := ad_p0_growth_nodes) (ad_p2 := ad_p0_hand) (n_p0 := n_p0_growth_nodes) (p0_width := p0_growth_nodes_width) (p0_size := p0_growth_nodes_size) (p2_rowSize := p0_hand_rowSize) (p2_waySize := p0_hand_waySize) (p0_by := p0_growth_nodes_by) (p0_former := p0_growth_nodes_former) (p2_way := p0_hand_way) hw) (cwV 2 hts gX9_pump_X4_retrace rfl rfl rfl (by decide +kernel) ⟨Nat.le_of_ble_eq_true rfl, Nat.le_of_ble_eq_true rfl⟩) ⟨xPre_blind, va_recv hK hP (ci := 4) (q0 := 2) rfl rfl, xPre_at hK hPc hDc n1 n2⟩ rfl rfl hl.1 rfl (lv_room (Nat.le_of_ble_eq_true rfl)) dX9_pump_44 ⟨Nat.zero_le _, Nat.zero_le _⟩) (fun u H locs hw hP hD hS => ?_)
      obtain ⟨y5, y6⟩ := u
      try dsimp only at hw
      have hP : va_P (dC, dI) vwCl (wld_X9_pump cI cJ cZ h_p0 ad_p0 ad_p0_growth ad_p0_growth_nodes ad_p0_hand n_p0_growth_nodes p0_goings p0_latestFault p0_growth_made p0_growth_endlessNode p0_growth_endlessBy p0_growth_nodes_width p0_growth_nodes_size p0_hand_rowSize y5 p0_growth_nodes_by p0_growth_nodes_former y6) H := hP
      have hD : va_D A (wld_X9_pump cI cJ cZ h_p0 ad_p0 ad_p0_growth ad_p0_growth_nodes ad_p0_hand n_p0_growth_nodes p0_goings p0_latestFault p0_growth_made p0_growth_endlessNode p0_growth_endlessBy p0_growth_nodes_width p0_growth_nodes_size p0_hand_rowSize y5 p0_growth_nodes_by p0_growth_nodes_former y6) := hD
      refine lv_aload_n hx hb dX9_pump_47 rfl (lv_at hl 0 rfl) ?_
      refine va_get (D := (dC, dI)) (ci := 9) (v := .ref (ad_p0 6)) (C := RX9) (T := TX9) (N := 12) hx hb hts iX9 hown hK hP 0 rfl rfl 6 (by decide) (hts (.fieldLink RX9 50 "NetHouse" "growth" "LNetHouse$Tree;") (by decide +kernel)) (fun _ h9 => h9) rfl dX9_pump_48 ?_
      refine va_get (D := (dC, dI)) (ci := 8) (v := .ref (ad_p0_growth 0)) (C := RX8) (T := TX8) (N := 6) hx hb hts iX8 hown hK hP 1 rfl rfl 0 (by decide) (hts (.fieldLink RX9 303 "NetHouse$Tree" "nodes" "LNetHouse$Markings;") (by decide +kernel)) (fun _ h9 => h9) rfl dX9_pump_51 ?_
      refine lv_aload_n hx hb dX9_pump_54 rfl (lv_at hl 0 rfl) ?_
      refine va_get (D := (dC, dI)) (ci := 9) (v := .ref (ad_p0 6)) (C := RX9) (T := TX9) (N := 12) hx hb hts iX9 hown hK hP 0 rfl rfl 6 (by decide) (hts (.fieldLink RX9 50 "NetHouse" "growth" "LNetHouse$Tree;") (by decide +kernel)) (fun _ h9 => h9) rfl dX9_pump_55 ?_
      refine va_get (D := (dC, dI)) (ci := 8) (v := .int p0_growth_endlessBy) (C := RX8) (T := TX8) (N := 6) hx hb hts iX8 hown hK hP 1 rfl rfl 5 (by decide) (hts (.fieldLink RX9 330 "NetHouse$Tree" "endlessBy" "I") (by decide +kernel)) (fun _ h9 => h9) rfl dX9_pump_58 ?_
      obtain ⟨hPc, hDc⟩ := x_sub (wc := (wld_X4_depthOf cI cJ cZ (ad_p0_growth 0) ad_p0_growth_nodes n_p0_growth_nodes p0_growth_nodes_width p0_growth_nodes_size p0_growth_nodes_former)) hP hD [2, 4] (n := 7) rfl rfl (by decide +kernel)
      refine x_calli (ws' := fun (u : Unit) => (wld_X9_pump cI cJ cZ h_p0 ad_p0 ad_p0_growth ad_p0_growth_nodes ad_p0_hand n_p0_growth_nodes p0_goings p0_latestFault p0_growth_made p0_growth_endlessNode p0_growth_endlessBy p0_growth_nodes_width p0_growth_nodes_size p0_hand_rowSize y5 p0_growth_nodes_by p0_growth_nodes_former y6)) hP hD hS hA [2, 4] [0, 1, 3, 5, 6] [0, 1, 5, 2, 6, 3, 4] (n := 7) (k := 2) rfl (fun _ => rfl) rfl (by decide +kernel) (fun _ => rfl) (va_runV (As := [.int p0_growth_endlessBy]) (rest := []) ⟨hx, hb, hml, hown, hts⟩ (c_X4_depthOf (l := l) (dC := dC) (dI := dI) (cI := cI) (cJ := cJ) (cZ := cZ) (sz := H.size) (h_p0 := (ad_p0_growth 0)) (ad_p0 := ad_p0_growth_nodes) (n_p0 := n_p0_growth_nodes) (p0_width := p0_growth_nodes_width) (p0_size := p0_growth_nodes_size) (p0_former := p0_growth_nodes_former) hw) (cwV 1 hts gX9_pump_X4_depthOf rfl rfl rfl (by decide +kernel) ⟨Nat.le_of_ble_eq_true rfl, Nat.le_of_ble_eq_true rfl⟩) ⟨xPre_blind, va_recv hK hP (ci := 4) (q0 := 2) rfl rfl, xPre_at hK hPc hDc n1 n2⟩ rfl rfl hl.1 rfl (lv_room (Nat.le_of_ble_eq_true rfl)) dX9_pump_61 ⟨Nat.zero_le _, Nat.zero_le _⟩) (fun r7 u H locs hw hP hD hS => ?_)
      try dsimp only at hw
      have hP : va_P (dC, dI) vwCl (wld_X9_pump cI cJ cZ h_p0 ad_p0 ad_p0_growth ad_p0_growth_nodes ad_p0_hand n_p0_growth_nodes p0_goings p0_latestFault p0_growth_made p0_growth_endlessNode p0_growth_endlessBy p0_growth_nodes_width p0_growth_nodes_size p0_hand_rowSize y5 p0_growth_nodes_by p0_growth_nodes_former y6) H := hP
      have hD : va_D A (wld_X9_pump cI cJ cZ h_p0 ad_p0 ad_p0_growth ad_p0_growth_nodes ad_p0_hand n_p0_growth_nodes p0_goings p0_latestFault p0_growth_made p0_growth_endlessNode p0_growth_endlessBy p0_growth_nodes_width p0_growth_nodes_size p0_hand_rowSize y5 p0_growth_nodes_by p0_growth_nodes_former y6) := hD
      exact x_iret (w1 := fun (u : (Int32) × (Nat → Int32)) => (wld_X9_pump cI cJ cZ h_p0 ad_p0 ad_p0_growth ad_p0_growth_nodes ad_p0_hand n_p0_growth_nodes p0_goings p0_latestFault p0_growth_made p0_growth_endlessNode p0_growth_endlessBy p0_growth_nodes_width p0_growth_nodes_size p0_hand_rowSize (u.1) p0_growth_nodes_by p0_growth_nodes_former (u.2))) hx hb hr hlocks (y5, y6) hw hP hD hS dX9_pump_64
    · have hw := hw.2 c4
      refine lv_ldc (v := -2000000005) hx hb hown (hts (.constant RX9 75 (-2000000005)) (by decide +kernel)) dX9_pump_23 ?_
      exact x_iret (w1 := fun (u : (Int32) × (Nat → Int32)) => (wld_X9_pump cI cJ cZ h_p0 ad_p0 ad_p0_growth ad_p0_growth_nodes ad_p0_hand n_p0_growth_nodes p0_goings p0_latestFault p0_growth_made p0_growth_endlessNode p0_growth_endlessBy p0_growth_nodes_width p0_growth_nodes_size p0_hand_rowSize (u.1) p0_growth_nodes_by p0_growth_nodes_former (u.2))) hx hb hr hlocks (p0_hand_waySize, p0_hand_way) hw hP hD hS dX9_pump_25
  · have hw := hw.2 c2
    refine lv_ldc (v := -2000000002) hx hb hown (hts (.constant RX9 113 (-2000000002)) (by decide +kernel)) dX9_pump_10 ?_
    exact x_iret (w1 := fun (u : (Int32) × (Nat → Int32)) => (wld_X9_pump cI cJ cZ h_p0 ad_p0 ad_p0_growth ad_p0_growth_nodes ad_p0_hand n_p0_growth_nodes p0_goings p0_latestFault p0_growth_made p0_growth_endlessNode p0_growth_endlessBy p0_growth_nodes_width p0_growth_nodes_size p0_hand_rowSize (u.1) p0_growth_nodes_by p0_growth_nodes_former (u.2))) hx hb hr hlocks (p0_hand_waySize, p0_hand_way) hw hP hD hS dX9_pump_12
abbrev wld_X9_weights (cI cJ cZ : ClassId) (h_p0 : Nat) (ad_p0 : Nat → Nat) (ad_p0_net : Nat → Nat) (ad_p0_ofPlaces : Nat → Nat) (p0_goings : Int32) (p0_latestFault : Int32) (p0_net_places : Int32) (p0_net_steps : Int32) (p0_net_coloured : Int32) (p0_ofPlaces_rows : Int32) (p0_ofPlaces_size : Int32) (p0_net_puts : Nat → Int32) (p0_net_takes : Nat → Int32) (p0_ofPlaces_cells : Nat → Int64) (p0_ofPlaces_found : Nat → Int32) (p0_ofPlaces_out : Nat → Int32) : va_W := [(h_p0, .inr (9, [.ref (ad_p0 0), .ref (ad_p0 1), .ref (ad_p0 2), .ref (ad_p0 3), .ref (ad_p0 4), .ref (ad_p0 5), .ref (ad_p0 6), .ref (ad_p0 7), .ref (ad_p0 8), .ref (ad_p0 9), .int p0_goings, .int p0_latestFault])), ((ad_p0 0), .inr (5, [.ref (ad_p0_net 0), .ref (ad_p0_net 1), .ref (ad_p0_net 2), .ref (ad_p0_net 3), .ref (ad_p0_net 4), .ref (ad_p0_net 5), .ref (ad_p0_net 6), .ref (ad_p0_net 7), .ref (ad_p0_net 8), .ref (ad_p0_net 9), .ref (ad_p0_net 10), .int p0_net_places, .int p0_net_steps, .int p0_net_coloured])), ((ad_p0_net 3), .inl (cI, 256, .inl p0_net_puts)), ((ad_p0_net 2), .inl (cI, 256, .inl p0_net_takes)), ((ad_p0 7), .inr (0, [.ref (ad_p0_ofPlaces 0), .ref (ad_p0_ofPlaces 1), .ref (ad_p0_ofPlaces 2), .int p0_ofPlaces_rows, .int p0_ofPlaces_size])), ((ad_p0_ofPlaces 1), .inl (cJ, 512, .inr (.inl p0_ofPlaces_cells))), ((ad_p0_ofPlaces 2), .inl (cI, 256, .inl p0_ofPlaces_found)), ((ad_p0_ofPlaces 0), .inl (cI, 16, .inl p0_ofPlaces_out))]
abbrev q_X9_weights (dC : Nat → ClassId) (dI : Nat → Nat → Nat) (cI cJ cZ : ClassId) (h_p0 : Nat) (ad_p0 : Nat → Nat) (ad_p0_net : Nat → Nat) (ad_p0_ofPlaces : Nat → Nat) (p0_goings : Int32) (p0_latestFault : Int32) (p0_net_places : Int32) (p0_net_steps : Int32) (p0_net_coloured : Int32) (p0_ofPlaces_rows : Int32) (p0_ofPlaces_size : Int32) (p0_net_puts : Nat → Int32) (p0_net_takes : Nat → Int32) (p0_ofPlaces_cells : Nat → Int64) (p0_ofPlaces_found : Nat → Int32) (p0_ofPlaces_out : Nat → Int32) (post : Int32 → (Int32) → (Int32) → (Nat → Int64) → (Nat → Int32) → (Nat → Int32) → Prop) (A : Nat → Prop) : Array Value → State → Outcome → State → Prop := va_Qi (fun r (u : (Int32) × (Int32) × (Nat → Int64) × (Nat → Int32) × (Nat → Int32)) => post r (u.1) (u.2.1) (u.2.2.1) (u.2.2.2.1) (u.2.2.2.2)) (fun (u : (Int32) × (Int32) × (Nat → Int64) × (Nat → Int32) × (Nat → Int32)) t => xPost (dC, dI) A (wld_X9_weights cI cJ cZ h_p0 ad_p0 ad_p0_net ad_p0_ofPlaces p0_goings p0_latestFault p0_net_places p0_net_steps p0_net_coloured (u.1) (u.2.1) p0_net_puts p0_net_takes (u.2.2.1) (u.2.2.2.1) (u.2.2.2.2)) t) A
def w_X9_weights (p0_net_places : Int32) (p0_net_steps : Int32) (p0_ofPlaces_rows : Int32) (p0_ofPlaces_size : Int32) (p0_net_puts : Nat → Int32) (p0_net_takes : Nat → Int32) (p0_ofPlaces_cells : Nat → Int64) (p0_ofPlaces_found : Nat → Int32) (p0_ofPlaces_out : Nat → Int32) (post : Int32 → (Int32) → (Int32) → (Nat → Int64) → (Nat → Int32) → (Nat → Int32) → Prop) : Prop :=
  w_X0_solve p0_ofPlaces_rows p0_ofPlaces_size p0_net_places p0_net_steps p0_ofPlaces_cells p0_ofPlaces_found p0_ofPlaces_out p0_net_puts p0_net_takes (1 : Int32) (fun r1 y2 y3 y4 y5 y6 =>
  (r1 = 0 →
    (post (-2000000004 : Int32) y2 y3 y4 y5 y6)) ∧
  (¬ r1 = 0 →
    (post y3 y2 y3 y4 y5 y6)))
set_option maxHeartbeats 4000000 in
set_option maxRecDepth 100000 in
theorem c_X9_weights {l : Launch} {dC : Nat → ClassId} {dI : Nat → Nat → Nat} {sz : Nat} {cI cJ cZ : ClassId} {h_p0 : Nat} {ad_p0 : Nat → Nat} {ad_p0_net : Nat → Nat} {ad_p0_ofPlaces : Nat → Nat} {p0_goings : Int32} {p0_latestFault : Int32} {p0_net_places : Int32} {p0_net_steps : Int32} {p0_net_coloured : Int32} {p0_ofPlaces_rows : Int32} {p0_ofPlaces_size : Int32} {p0_net_puts : Nat → Int32} {p0_net_takes : Nat → Int32} {p0_ofPlaces_cells : Nat → Int64} {p0_ofPlaces_found : Nat → Int32} {p0_ofPlaces_out : Nat → Int32}  {post : Int32 → (Int32) → (Int32) → (Nat → Int64) → (Nat → Int32) → (Nat → Int32) → Prop} (hw : w_X9_weights p0_net_places p0_net_steps p0_ofPlaces_rows p0_ofPlaces_size p0_net_puts p0_net_takes p0_ofPlaces_cells p0_ofPlaces_found p0_ofPlaces_out post) : Met l yX9_weights wsX9_weights ({ frames := 4, cells := 0, slots := 0, locals := 110 }) (va_Pc [.ref h_p0] (xPre (dC, dI) cI cJ cZ (wld_X9_weights cI cJ cZ h_p0 ad_p0 ad_p0_net ad_p0_ofPlaces p0_goings p0_latestFault p0_net_places p0_net_steps p0_net_coloured p0_ofPlaces_rows p0_ofPlaces_size p0_net_puts p0_net_takes p0_ofPlaces_cells p0_ofPlaces_found p0_ofPlaces_out) sz)) (q_X9_weights dC dI cI cJ cZ h_p0 ad_p0 ad_p0_net ad_p0_ofPlaces p0_goings p0_latestFault p0_net_places p0_net_steps p0_net_coloured p0_ofPlaces_rows p0_ofPlaces_size p0_net_puts p0_net_takes p0_ofPlaces_cells p0_ofPlaces_found p0_ofPlaces_out post (va_A (wld_X9_weights cI cJ cZ h_p0 ad_p0 ad_p0_net ad_p0_ofPlaces p0_goings p0_latestFault p0_net_places p0_net_steps p0_net_coloured p0_ofPlaces_rows p0_ofPlaces_size p0_net_puts p0_net_takes p0_ofPlaces_cells p0_ofPlaces_found p0_ofPlaces_out) sz)) 0 0 (va_A (wld_X9_weights cI cJ cZ h_p0 ad_p0 ad_p0_net ad_p0_ofPlaces p0_goings p0_latestFault p0_net_places p0_net_steps p0_net_coloured p0_ofPlaces_rows p0_ofPlaces_size p0_net_puts p0_net_takes p0_ofPlaces_cells p0_ofPlaces_found p0_ofPlaces_out) sz) := by
  refine x_met (cc := cX9_weights) (maxL := 1) (ret := (some .int)) (own := RX9) (Qc := fun A => (q_X9_weights dC dI cI cJ cZ h_p0 ad_p0 ad_p0_net ad_p0_ofPlaces p0_goings p0_latestFault p0_net_places p0_net_steps p0_net_coloured p0_ofPlaces_rows p0_ofPlaces_size p0_net_puts p0_net_takes p0_ofPlaces_cells p0_ofPlaces_found p0_ofPlaces_out post A)) (by decide) rfl rfl (Nat.le_of_ble_eq_true rfl) ?_
  intro p e s m args below meth c A ls E0 hP hD hS hl
  obtain ⟨hx, hb, hr, hml, hown, hts, hlocks, hK, hA, n1, n2⟩ := id E0
  have iX0 : ∀ w ∈ u_ws RX0 TX0 5, w ∈ wsX9_weights := fun w h => List.mem_cons_of_mem _ (List.mem_append_left _ (List.mem_append_right _ h))
  have iX5 : ∀ w ∈ u_ws RX5 TX5 14, w ∈ wsX9_weights := fun w h => List.mem_cons_of_mem _ (List.mem_append_right _ h)
  have iX9 : ∀ w ∈ u_ws RX9 TX9 12, w ∈ wsX9_weights := fun w h => List.mem_cons_of_mem _ (List.mem_append_left _ (List.mem_append_left _ (List.mem_append_right _ h)))
  have hS0 := hS
  have hl : lv_has ls 1 [(0, .ref h_p0)] := hl
  unfold w_X9_weights at hw
  obtain ⟨H, hH⟩ : ∃ H, H = s.heap := ⟨_, rfl⟩
  have hS : va_S A s.heap H [] := by rw [hH]; exact hS
  have hP : va_P (dC, dI) vwCl (wld_X9_weights cI cJ cZ h_p0 ad_p0 ad_p0_net ad_p0_ofPlaces p0_goings p0_latestFault p0_net_places p0_net_steps p0_net_coloured p0_ofPlaces_rows p0_ofPlaces_size p0_net_puts p0_net_takes p0_ofPlaces_cells p0_ofPlaces_found p0_ofPlaces_out) H := by rw [hH]; exact hP
  suffices hG : W p l e ({ frames := 4, cells := 0, slots := 0, locals := 110 }) s m args below meth c H [] 0 0 (MQ below (q_X9_weights dC dI cI cJ cZ h_p0 ad_p0 ad_p0_net ad_p0_ofPlaces p0_goings p0_latestFault p0_net_places p0_net_steps p0_net_coloured p0_ofPlaces_rows p0_ofPlaces_size p0_net_puts p0_net_takes p0_ofPlaces_cells p0_ofPlaces_found p0_ofPlaces_out post A) args s 0 0 A) (F0 m 0 ls []) by rw [hH] at hG; exact hG
  clear hH
  refine lv_aload_n hx hb dX9_weights_0 rfl (lv_at hl 0 rfl) ?_
  refine va_get (D := (dC, dI)) (ci := 9) (v := .ref (ad_p0 7)) (C := RX9) (T := TX9) (N := 12) hx hb hts iX9 hown hK hP 0 rfl rfl 7 (by decide) (hts (.fieldLink RX9 57 "NetHouse" "ofPlaces" "LNetHouse$Balance;") (by decide +kernel)) (fun _ h9 => h9) rfl dX9_weights_1 ?_
  refine lv_aload_n hx hb dX9_weights_4 rfl (lv_at hl 0 rfl) ?_
  refine va_get (D := (dC, dI)) (ci := 9) (v := .ref (ad_p0 0)) (C := RX9) (T := TX9) (N := 12) hx hb hts iX9 hown hK hP 0 rfl rfl 0 (by decide) (hts (.fieldLink RX9 10 "NetHouse" "net" "LNetHouse$Net;") (by decide +kernel)) (fun _ h9 => h9) rfl dX9_weights_5 ?_
  refine lv_iconst (v := 1) hx hb dX9_weights_8 (by decide) ?_
  obtain ⟨hPc, hDc⟩ := x_sub (wc := (wld_X0_solve cI cJ cZ (ad_p0 7) (ad_p0 0) ad_p0_ofPlaces ad_p0_net p0_ofPlaces_rows p0_ofPlaces_size p0_net_places p0_net_steps p0_net_coloured p0_ofPlaces_cells p0_ofPlaces_found p0_ofPlaces_out p0_net_puts p0_net_takes)) hP hD [4, 5, 6, 7, 1, 2, 3] (n := 8) rfl rfl (by decide +kernel)
  refine x_calli (ws' := fun (u : (Int32) × (Int32) × (Nat → Int64) × (Nat → Int32) × (Nat → Int32)) => (wld_X9_weights cI cJ cZ h_p0 ad_p0 ad_p0_net ad_p0_ofPlaces p0_goings p0_latestFault p0_net_places p0_net_steps p0_net_coloured (u.1) (u.2.1) p0_net_puts p0_net_takes (u.2.2.1) (u.2.2.2.1) (u.2.2.2.2))) hP hD hS hA [4, 5, 6, 7, 1, 2, 3] [0] [0, 5, 6, 7, 1, 2, 3, 4] (n := 8) (k := 7) rfl (fun _ => rfl) rfl (by decide +kernel) (fun _ => rfl) (va_runV (As := [.ref (ad_p0 0), .int (1 : Int32)]) (rest := []) ⟨hx, hb, hml, hown, hts⟩ (c_X0_solve (l := l) (dC := dC) (dI := dI) (cI := cI) (cJ := cJ) (cZ := cZ) (sz := H.size) (h_p0 := (ad_p0 7)) (h_p1 := (ad_p0 0)) (ad_p0 := ad_p0_ofPlaces) (ad_p1 := ad_p0_net) (p0_rows := p0_ofPlaces_rows) (p0_size := p0_ofPlaces_size) (p1_places := p0_net_places) (p1_steps := p0_net_steps) (p1_coloured := p0_net_coloured) (p0_cells := p0_ofPlaces_cells) (p0_found := p0_ofPlaces_found) (p0_out := p0_ofPlaces_out) (p1_puts := p0_net_puts) (p1_takes := p0_net_takes) hw) (cwV 2 hts gX9_weights_X0_solve rfl rfl rfl (by decide +kernel) ⟨Nat.le_of_ble_eq_true rfl, Nat.le_of_ble_eq_true rfl⟩) ⟨xPre_blind, va_recv hK hP (ci := 0) (q0 := 4) rfl rfl, xPre_at hK hPc hDc n1 n2⟩ rfl rfl hl.1 rfl (lv_room (Nat.le_of_ble_eq_true rfl)) dX9_weights_9 ⟨Nat.zero_le _, Nat.zero_le _⟩) (fun r1 u H locs hw hP hD hS => ?_)
  obtain ⟨y2, y3, y4, y5, y6⟩ := u
  try dsimp only at hw
  have hP : va_P (dC, dI) vwCl (wld_X9_weights cI cJ cZ h_p0 ad_p0 ad_p0_net ad_p0_ofPlaces p0_goings p0_latestFault p0_net_places p0_net_steps p0_net_coloured y2 y3 p0_net_puts p0_net_takes y4 y5 y6) H := hP
  have hD : va_D A (wld_X9_weights cI cJ cZ h_p0 ad_p0 ad_p0_net ad_p0_ofPlaces p0_goings p0_latestFault p0_net_places p0_net_steps p0_net_coloured y2 y3 p0_net_puts p0_net_takes y4 y5 y6) := hD
  refine lv_if_eq (tgt := 25) hx hb dX9_weights_12 (by decide) (fun c7 => ?_) (fun c8 => ?_)
  · have hw := hw.1 c7
    refine lv_ldc (v := -2000000004) hx hb hown (hts (.constant RX9 255 (-2000000004)) (by decide +kernel)) dX9_weights_25 ?_
    exact x_iret (w1 := fun (u : (Int32) × (Int32) × (Nat → Int64) × (Nat → Int32) × (Nat → Int32)) => (wld_X9_weights cI cJ cZ h_p0 ad_p0 ad_p0_net ad_p0_ofPlaces p0_goings p0_latestFault p0_net_places p0_net_steps p0_net_coloured (u.1) (u.2.1) p0_net_puts p0_net_takes (u.2.2.1) (u.2.2.2.1) (u.2.2.2.2))) hx hb hr hlocks (y2, y3, y4, y5, y6) hw hP hD hS dX9_weights_27
  · have hw := hw.2 c8
    refine lv_aload_n hx hb dX9_weights_15 rfl (lv_at hl 0 rfl) ?_
    refine va_get (D := (dC, dI)) (ci := 9) (v := .ref (ad_p0 7)) (C := RX9) (T := TX9) (N := 12) hx hb hts iX9 hown hK hP 0 rfl rfl 7 (by decide) (hts (.fieldLink RX9 57 "NetHouse" "ofPlaces" "LNetHouse$Balance;") (by decide +kernel)) (fun _ h9 => h9) rfl dX9_weights_16 ?_
    refine va_get (D := (dC, dI)) (ci := 0) (v := .int y3) (C := RX0) (T := TX0) (N := 5) hx hb hts iX0 hown hK hP 4 rfl rfl 4 (by decide) (hts (.fieldLink RX9 340 "NetHouse$Balance" "size" "I") (by decide +kernel)) (fun _ h9 => h9) rfl dX9_weights_19 ?_
    refine lv_goto (tgt := 27) hx hb dX9_weights_22 (by decide) ?_
    exact x_iret (w1 := fun (u : (Int32) × (Int32) × (Nat → Int64) × (Nat → Int32) × (Nat → Int32)) => (wld_X9_weights cI cJ cZ h_p0 ad_p0 ad_p0_net ad_p0_ofPlaces p0_goings p0_latestFault p0_net_places p0_net_steps p0_net_coloured (u.1) (u.2.1) p0_net_puts p0_net_takes (u.2.2.1) (u.2.2.2.1) (u.2.2.2.2))) hx hb hr hlocks (y2, y3, y4, y5, y6) hw hP hD hS dX9_weights_27
abbrev wld_X9_weight (cI cJ cZ : ClassId) (h_p0 : Nat) (ad_p0 : Nat → Nat) (ad_p0_net : Nat → Nat) (ad_p0_ofPlaces : Nat → Nat) (p0_goings : Int32) (p0_latestFault : Int32) (p0_net_places : Int32) (p0_net_steps : Int32) (p0_net_coloured : Int32) (p0_ofPlaces_rows : Int32) (p0_ofPlaces_size : Int32) (p0_ofPlaces_found : Nat → Int32) : va_W := [(h_p0, .inr (9, [.ref (ad_p0 0), .ref (ad_p0 1), .ref (ad_p0 2), .ref (ad_p0 3), .ref (ad_p0 4), .ref (ad_p0 5), .ref (ad_p0 6), .ref (ad_p0 7), .ref (ad_p0 8), .ref (ad_p0 9), .int p0_goings, .int p0_latestFault])), ((ad_p0 0), .inr (5, [.ref (ad_p0_net 0), .ref (ad_p0_net 1), .ref (ad_p0_net 2), .ref (ad_p0_net 3), .ref (ad_p0_net 4), .ref (ad_p0_net 5), .ref (ad_p0_net 6), .ref (ad_p0_net 7), .ref (ad_p0_net 8), .ref (ad_p0_net 9), .ref (ad_p0_net 10), .int p0_net_places, .int p0_net_steps, .int p0_net_coloured])), ((ad_p0 7), .inr (0, [.ref (ad_p0_ofPlaces 0), .ref (ad_p0_ofPlaces 1), .ref (ad_p0_ofPlaces 2), .int p0_ofPlaces_rows, .int p0_ofPlaces_size])), ((ad_p0_ofPlaces 2), .inl (cI, 256, .inl p0_ofPlaces_found))]
abbrev q_X9_weight (dC : Nat → ClassId) (dI : Nat → Nat → Nat) (cI cJ cZ : ClassId) (h_p0 : Nat) (ad_p0 : Nat → Nat) (ad_p0_net : Nat → Nat) (ad_p0_ofPlaces : Nat → Nat) (p0_goings : Int32) (p0_latestFault : Int32) (p0_net_places : Int32) (p0_net_steps : Int32) (p0_net_coloured : Int32) (p0_ofPlaces_rows : Int32) (p0_ofPlaces_size : Int32) (p0_ofPlaces_found : Nat → Int32) (post : Int32 → Prop) (A : Nat → Prop) : Array Value → State → Outcome → State → Prop := va_Qi (fun r (u : Unit) => post r ) (fun (u : Unit) t => xPost (dC, dI) A (wld_X9_weight cI cJ cZ h_p0 ad_p0 ad_p0_net ad_p0_ofPlaces p0_goings p0_latestFault p0_net_places p0_net_steps p0_net_coloured p0_ofPlaces_rows p0_ofPlaces_size p0_ofPlaces_found) t) A
def w_X9_weight (p0_net_places : Int32) (p0_ofPlaces_size : Int32) (p0_ofPlaces_found : Nat → Int32) (a1 : Int32) (a2 : Int32) (post : Int32 → Prop) : Prop :=
  w_X5_hasPlace p0_net_places a2 (fun r1 =>
  (r1 = 0 →
    (post (-2000000001 : Int32))) ∧
  (¬ r1 = 0 →
    w_X0_has p0_ofPlaces_size a1 (fun r4 =>
    (r4 = 0 →
      (post (-2000000001 : Int32))) ∧
    (¬ r4 = 0 →
      w_X0_numberAt p0_ofPlaces_found a1 a2 (fun r7 =>
      (post r7))))))
set_option maxHeartbeats 4000000 in
set_option maxRecDepth 100000 in
theorem c_X9_weight {l : Launch} {dC : Nat → ClassId} {dI : Nat → Nat → Nat} {sz : Nat} {cI cJ cZ : ClassId} {h_p0 : Nat} {ad_p0 : Nat → Nat} {ad_p0_net : Nat → Nat} {ad_p0_ofPlaces : Nat → Nat} {p0_goings : Int32} {p0_latestFault : Int32} {p0_net_places : Int32} {p0_net_steps : Int32} {p0_net_coloured : Int32} {p0_ofPlaces_rows : Int32} {p0_ofPlaces_size : Int32} {p0_ofPlaces_found : Nat → Int32} {a1 : Int32} {a2 : Int32} {post : Int32 → Prop} (hw : w_X9_weight p0_net_places p0_ofPlaces_size p0_ofPlaces_found a1 a2 post) : Met l yX9_weight wsX9_weight ({ frames := 1, cells := 0, slots := 0, locals := 22 }) (va_Pc [.ref h_p0, .int a1, .int a2] (xPre (dC, dI) cI cJ cZ (wld_X9_weight cI cJ cZ h_p0 ad_p0 ad_p0_net ad_p0_ofPlaces p0_goings p0_latestFault p0_net_places p0_net_steps p0_net_coloured p0_ofPlaces_rows p0_ofPlaces_size p0_ofPlaces_found) sz)) (q_X9_weight dC dI cI cJ cZ h_p0 ad_p0 ad_p0_net ad_p0_ofPlaces p0_goings p0_latestFault p0_net_places p0_net_steps p0_net_coloured p0_ofPlaces_rows p0_ofPlaces_size p0_ofPlaces_found post (va_A (wld_X9_weight cI cJ cZ h_p0 ad_p0 ad_p0_net ad_p0_ofPlaces p0_goings p0_latestFault p0_net_places p0_net_steps p0_net_coloured p0_ofPlaces_rows p0_ofPlaces_size p0_ofPlaces_found) sz)) 0 0 (va_A (wld_X9_weight cI cJ cZ h_p0 ad_p0 ad_p0_net ad_p0_ofPlaces p0_goings p0_latestFault p0_net_places p0_net_steps p0_net_coloured p0_ofPlaces_rows p0_ofPlaces_size p0_ofPlaces_found) sz) := by
  refine x_met (cc := cX9_weight) (maxL := 3) (ret := (some .int)) (own := RX9) (Qc := fun A => (q_X9_weight dC dI cI cJ cZ h_p0 ad_p0 ad_p0_net ad_p0_ofPlaces p0_goings p0_latestFault p0_net_places p0_net_steps p0_net_coloured p0_ofPlaces_rows p0_ofPlaces_size p0_ofPlaces_found post A)) (by decide) rfl rfl (Nat.le_of_ble_eq_true rfl) ?_
  intro p e s m args below meth c A ls E0 hP hD hS hl
  obtain ⟨hx, hb, hr, hml, hown, hts, hlocks, hK, hA, n1, n2⟩ := id E0
  have iX0 : ∀ w ∈ u_ws RX0 TX0 5, w ∈ wsX9_weight := fun w h => List.mem_cons_of_mem _ (List.mem_append_right _ h)
  have iX5 : ∀ w ∈ u_ws RX5 TX5 14, w ∈ wsX9_weight := fun w h => List.mem_cons_of_mem _ (List.mem_append_left _ (List.mem_append_right _ h))
  have iX9 : ∀ w ∈ u_ws RX9 TX9 12, w ∈ wsX9_weight := fun w h => List.mem_cons_of_mem _ (List.mem_append_left _ (List.mem_append_left _ (List.mem_append_right _ h)))
  have hS0 := hS
  have hl : lv_has ls 3 [(0, .ref h_p0), (1, .int a1), (2, .int a2)] := hl
  unfold w_X9_weight at hw
  obtain ⟨H, hH⟩ : ∃ H, H = s.heap := ⟨_, rfl⟩
  have hS : va_S A s.heap H [] := by rw [hH]; exact hS
  have hP : va_P (dC, dI) vwCl (wld_X9_weight cI cJ cZ h_p0 ad_p0 ad_p0_net ad_p0_ofPlaces p0_goings p0_latestFault p0_net_places p0_net_steps p0_net_coloured p0_ofPlaces_rows p0_ofPlaces_size p0_ofPlaces_found) H := by rw [hH]; exact hP
  suffices hG : W p l e ({ frames := 1, cells := 0, slots := 0, locals := 22 }) s m args below meth c H [] 0 0 (MQ below (q_X9_weight dC dI cI cJ cZ h_p0 ad_p0 ad_p0_net ad_p0_ofPlaces p0_goings p0_latestFault p0_net_places p0_net_steps p0_net_coloured p0_ofPlaces_rows p0_ofPlaces_size p0_ofPlaces_found post A) args s 0 0 A) (F0 m 0 ls []) by rw [hH] at hG; exact hG
  clear hH
  refine lv_aload_n hx hb dX9_weight_0 rfl (lv_at hl 0 rfl) ?_
  refine va_get (D := (dC, dI)) (ci := 9) (v := .ref (ad_p0 0)) (C := RX9) (T := TX9) (N := 12) hx hb hts iX9 hown hK hP 0 rfl rfl 0 (by decide) (hts (.fieldLink RX9 10 "NetHouse" "net" "LNetHouse$Net;") (by decide +kernel)) (fun _ h9 => h9) rfl dX9_weight_1 ?_
  refine lv_iload_n hx hb dX9_weight_4 rfl (lv_at hl 2 rfl) ?_
  obtain ⟨hPc, hDc⟩ := x_sub (wc := (wld_X5_hasPlace cI cJ cZ (ad_p0 0) ad_p0_net p0_net_places p0_net_steps p0_net_coloured)) hP hD [1] (n := 4) rfl rfl (by decide +kernel)
  refine x_calli (ws' := fun (u : Unit) => (wld_X9_weight cI cJ cZ h_p0 ad_p0 ad_p0_net ad_p0_ofPlaces p0_goings p0_latestFault p0_net_places p0_net_steps p0_net_coloured p0_ofPlaces_rows p0_ofPlaces_size p0_ofPlaces_found)) hP hD hS hA [1] [0, 2, 3] [0, 3, 1, 2] (n := 4) (k := 1) rfl (fun _ => rfl) rfl (by decide +kernel) (fun _ => rfl) (va_runV (As := [.int a2]) (rest := []) ⟨hx, hb, hml, hown, hts⟩ (c_X5_hasPlace (l := l) (dC := dC) (dI := dI) (cI := cI) (cJ := cJ) (cZ := cZ) (sz := H.size) (h_p0 := (ad_p0 0)) (ad_p0 := ad_p0_net) (p0_places := p0_net_places) (p0_steps := p0_net_steps) (p0_coloured := p0_net_coloured) hw) (cwV 1 hts gX9_weight_X5_hasPlace rfl rfl rfl (by decide +kernel) ⟨Nat.le_of_ble_eq_true rfl, Nat.le_of_ble_eq_true rfl⟩) ⟨xPre_blind, va_recv hK hP (ci := 5) (q0 := 1) rfl rfl, xPre_at hK hPc hDc n1 n2⟩ rfl rfl hl.1 rfl (lv_room (Nat.le_of_ble_eq_true rfl)) dX9_weight_5 ⟨Nat.zero_le _, Nat.zero_le _⟩) (fun r1 u H locs hw hP hD hS => ?_)
  try dsimp only at hw
  have hP : va_P (dC, dI) vwCl (wld_X9_weight cI cJ cZ h_p0 ad_p0 ad_p0_net ad_p0_ofPlaces p0_goings p0_latestFault p0_net_places p0_net_steps p0_net_coloured p0_ofPlaces_rows p0_ofPlaces_size p0_ofPlaces_found) H := hP
  have hD : va_D A (wld_X9_weight cI cJ cZ h_p0 ad_p0 ad_p0_net ad_p0_ofPlaces p0_goings p0_latestFault p0_net_places p0_net_steps p0_net_coloured p0_ofPlaces_rows p0_ofPlaces_size p0_ofPlaces_found) := hD
  refine lv_if_eq (tgt := 34) hx hb dX9_weight_8 (by decide) (fun c2 => ?_) (fun c3 => ?_)
  · have hw := hw.1 c2
    refine lv_ldc (v := -2000000001) hx hb hown (hts (.constant RX9 79 (-2000000001)) (by decide +kernel)) dX9_weight_34 ?_
    exact x_iret (w1 := fun (u : Unit) => (wld_X9_weight cI cJ cZ h_p0 ad_p0 ad_p0_net ad_p0_ofPlaces p0_goings p0_latestFault p0_net_places p0_net_steps p0_net_coloured p0_ofPlaces_rows p0_ofPlaces_size p0_ofPlaces_found)) hx hb hr hlocks () hw hP hD hS dX9_weight_36
  · have hw := hw.2 c3
    refine lv_aload_n hx hb dX9_weight_11 rfl (lv_at hl 0 rfl) ?_
    refine va_get (D := (dC, dI)) (ci := 9) (v := .ref (ad_p0 7)) (C := RX9) (T := TX9) (N := 12) hx hb hts iX9 hown hK hP 0 rfl rfl 7 (by decide) (hts (.fieldLink RX9 57 "NetHouse" "ofPlaces" "LNetHouse$Balance;") (by decide +kernel)) (fun _ h9 => h9) rfl dX9_weight_12 ?_
    refine lv_iload_n hx hb dX9_weight_15 rfl (lv_at hl 1 rfl) ?_
    obtain ⟨hPc, hDc⟩ := x_sub (wc := (wld_X0_has cI cJ cZ (ad_p0 7) ad_p0_ofPlaces p0_ofPlaces_rows p0_ofPlaces_size)) hP hD [2] (n := 4) rfl rfl (by decide +kernel)
    refine x_calli (ws' := fun (u : Unit) => (wld_X9_weight cI cJ cZ h_p0 ad_p0 ad_p0_net ad_p0_ofPlaces p0_goings p0_latestFault p0_net_places p0_net_steps p0_net_coloured p0_ofPlaces_rows p0_ofPlaces_size p0_ofPlaces_found)) hP hD hS hA [2] [0, 1, 3] [0, 1, 3, 2] (n := 4) (k := 1) rfl (fun _ => rfl) rfl (by decide +kernel) (fun _ => rfl) (va_runV (As := [.int a1]) (rest := []) ⟨hx, hb, hml, hown, hts⟩ (c_X0_has (l := l) (dC := dC) (dI := dI) (cI := cI) (cJ := cJ) (cZ := cZ) (sz := H.size) (h_p0 := (ad_p0 7)) (ad_p0 := ad_p0_ofPlaces) (p0_rows := p0_ofPlaces_rows) (p0_size := p0_ofPlaces_size) hw) (cwV 1 hts gX9_weight_X0_has rfl rfl rfl (by decide +kernel) ⟨Nat.le_of_ble_eq_true rfl, Nat.le_of_ble_eq_true rfl⟩) ⟨xPre_blind, va_recv hK hP (ci := 0) (q0 := 2) rfl rfl, xPre_at hK hPc hDc n1 n2⟩ rfl rfl hl.1 rfl (lv_room (Nat.le_of_ble_eq_true rfl)) dX9_weight_16 ⟨Nat.zero_le _, Nat.zero_le _⟩) (fun r4 u H locs hw hP hD hS => ?_)
    try dsimp only at hw
    have hP : va_P (dC, dI) vwCl (wld_X9_weight cI cJ cZ h_p0 ad_p0 ad_p0_net ad_p0_ofPlaces p0_goings p0_latestFault p0_net_places p0_net_steps p0_net_coloured p0_ofPlaces_rows p0_ofPlaces_size p0_ofPlaces_found) H := hP
    have hD : va_D A (wld_X9_weight cI cJ cZ h_p0 ad_p0 ad_p0_net ad_p0_ofPlaces p0_goings p0_latestFault p0_net_places p0_net_steps p0_net_coloured p0_ofPlaces_rows p0_ofPlaces_size p0_ofPlaces_found) := hD
    refine lv_if_eq (tgt := 34) hx hb dX9_weight_19 (by decide) (fun c5 => ?_) (fun c6 => ?_)
    · have hw := hw.1 c5
      refine lv_ldc (v := -2000000001) hx hb hown (hts (.constant RX9 79 (-2000000001)) (by decide +kernel)) dX9_weight_34 ?_
      exact x_iret (w1 := fun (u : Unit) => (wld_X9_weight cI cJ cZ h_p0 ad_p0 ad_p0_net ad_p0_ofPlaces p0_goings p0_latestFault p0_net_places p0_net_steps p0_net_coloured p0_ofPlaces_rows p0_ofPlaces_size p0_ofPlaces_found)) hx hb hr hlocks () hw hP hD hS dX9_weight_36
    · have hw := hw.2 c6
      refine lv_aload_n hx hb dX9_weight_22 rfl (lv_at hl 0 rfl) ?_
      refine va_get (D := (dC, dI)) (ci := 9) (v := .ref (ad_p0 7)) (C := RX9) (T := TX9) (N := 12) hx hb hts iX9 hown hK hP 0 rfl rfl 7 (by decide) (hts (.fieldLink RX9 57 "NetHouse" "ofPlaces" "LNetHouse$Balance;") (by decide +kernel)) (fun _ h9 => h9) rfl dX9_weight_23 ?_
      refine lv_iload_n hx hb dX9_weight_26 rfl (lv_at hl 1 rfl) ?_
      refine lv_iload_n hx hb dX9_weight_27 rfl (lv_at hl 2 rfl) ?_
      obtain ⟨hPc, hDc⟩ := x_sub (wc := (wld_X0_numberAt cI cJ cZ (ad_p0 7) ad_p0_ofPlaces p0_ofPlaces_rows p0_ofPlaces_size p0_ofPlaces_found)) hP hD [2, 3] (n := 4) rfl rfl (by decide +kernel)
      refine x_calli (ws' := fun (u : Unit) => (wld_X9_weight cI cJ cZ h_p0 ad_p0 ad_p0_net ad_p0_ofPlaces p0_goings p0_latestFault p0_net_places p0_net_steps p0_net_coloured p0_ofPlaces_rows p0_ofPlaces_size p0_ofPlaces_found)) hP hD hS hA [2, 3] [0, 1] [0, 1, 2, 3] (n := 4) (k := 2) rfl (fun _ => rfl) rfl (by decide +kernel) (fun _ => rfl) (va_runV (As := [.int a1, .int a2]) (rest := []) ⟨hx, hb, hml, hown, hts⟩ (c_X0_numberAt (l := l) (dC := dC) (dI := dI) (cI := cI) (cJ := cJ) (cZ := cZ) (sz := H.size) (h_p0 := (ad_p0 7)) (ad_p0 := ad_p0_ofPlaces) (p0_rows := p0_ofPlaces_rows) (p0_size := p0_ofPlaces_size) (p0_found := p0_ofPlaces_found) hw) (cwV 2 hts gX9_weight_X0_numberAt rfl rfl rfl (by decide +kernel) ⟨Nat.le_of_ble_eq_true rfl, Nat.le_of_ble_eq_true rfl⟩) ⟨xPre_blind, va_recv hK hP (ci := 0) (q0 := 2) rfl rfl, xPre_at hK hPc hDc n1 n2⟩ rfl rfl hl.1 rfl (lv_room (Nat.le_of_ble_eq_true rfl)) dX9_weight_28 ⟨Nat.zero_le _, Nat.zero_le _⟩) (fun r7 u H locs hw hP hD hS => ?_)
      try dsimp only at hw
      have hP : va_P (dC, dI) vwCl (wld_X9_weight cI cJ cZ h_p0 ad_p0 ad_p0_net ad_p0_ofPlaces p0_goings p0_latestFault p0_net_places p0_net_steps p0_net_coloured p0_ofPlaces_rows p0_ofPlaces_size p0_ofPlaces_found) H := hP
      have hD : va_D A (wld_X9_weight cI cJ cZ h_p0 ad_p0 ad_p0_net ad_p0_ofPlaces p0_goings p0_latestFault p0_net_places p0_net_steps p0_net_coloured p0_ofPlaces_rows p0_ofPlaces_size p0_ofPlaces_found) := hD
      refine lv_goto (tgt := 36) hx hb dX9_weight_31 (by decide) ?_
      exact x_iret (w1 := fun (u : Unit) => (wld_X9_weight cI cJ cZ h_p0 ad_p0 ad_p0_net ad_p0_ofPlaces p0_goings p0_latestFault p0_net_places p0_net_steps p0_net_coloured p0_ofPlaces_rows p0_ofPlaces_size p0_ofPlaces_found)) hx hb hr hlocks () hw hP hD hS dX9_weight_36
abbrev wld_X9_rounds (cI cJ cZ : ClassId) (h_p0 : Nat) (ad_p0 : Nat → Nat) (ad_p0_net : Nat → Nat) (ad_p0_ofSteps : Nat → Nat) (p0_goings : Int32) (p0_latestFault : Int32) (p0_net_places : Int32) (p0_net_steps : Int32) (p0_net_coloured : Int32) (p0_ofSteps_rows : Int32) (p0_ofSteps_size : Int32) (p0_net_puts : Nat → Int32) (p0_net_takes : Nat → Int32) (p0_ofSteps_cells : Nat → Int64) (p0_ofSteps_found : Nat → Int32) (p0_ofSteps_out : Nat → Int32) : va_W := [(h_p0, .inr (9, [.ref (ad_p0 0), .ref (ad_p0 1), .ref (ad_p0 2), .ref (ad_p0 3), .ref (ad_p0 4), .ref (ad_p0 5), .ref (ad_p0 6), .ref (ad_p0 7), .ref (ad_p0 8), .ref (ad_p0 9), .int p0_goings, .int p0_latestFault])), ((ad_p0 0), .inr (5, [.ref (ad_p0_net 0), .ref (ad_p0_net 1), .ref (ad_p0_net 2), .ref (ad_p0_net 3), .ref (ad_p0_net 4), .ref (ad_p0_net 5), .ref (ad_p0_net 6), .ref (ad_p0_net 7), .ref (ad_p0_net 8), .ref (ad_p0_net 9), .ref (ad_p0_net 10), .int p0_net_places, .int p0_net_steps, .int p0_net_coloured])), ((ad_p0_net 3), .inl (cI, 256, .inl p0_net_puts)), ((ad_p0_net 2), .inl (cI, 256, .inl p0_net_takes)), ((ad_p0 8), .inr (0, [.ref (ad_p0_ofSteps 0), .ref (ad_p0_ofSteps 1), .ref (ad_p0_ofSteps 2), .int p0_ofSteps_rows, .int p0_ofSteps_size])), ((ad_p0_ofSteps 1), .inl (cJ, 512, .inr (.inl p0_ofSteps_cells))), ((ad_p0_ofSteps 2), .inl (cI, 256, .inl p0_ofSteps_found)), ((ad_p0_ofSteps 0), .inl (cI, 16, .inl p0_ofSteps_out))]
abbrev q_X9_rounds (dC : Nat → ClassId) (dI : Nat → Nat → Nat) (cI cJ cZ : ClassId) (h_p0 : Nat) (ad_p0 : Nat → Nat) (ad_p0_net : Nat → Nat) (ad_p0_ofSteps : Nat → Nat) (p0_goings : Int32) (p0_latestFault : Int32) (p0_net_places : Int32) (p0_net_steps : Int32) (p0_net_coloured : Int32) (p0_ofSteps_rows : Int32) (p0_ofSteps_size : Int32) (p0_net_puts : Nat → Int32) (p0_net_takes : Nat → Int32) (p0_ofSteps_cells : Nat → Int64) (p0_ofSteps_found : Nat → Int32) (p0_ofSteps_out : Nat → Int32) (post : Int32 → (Int32) → (Int32) → (Nat → Int64) → (Nat → Int32) → (Nat → Int32) → Prop) (A : Nat → Prop) : Array Value → State → Outcome → State → Prop := va_Qi (fun r (u : (Int32) × (Int32) × (Nat → Int64) × (Nat → Int32) × (Nat → Int32)) => post r (u.1) (u.2.1) (u.2.2.1) (u.2.2.2.1) (u.2.2.2.2)) (fun (u : (Int32) × (Int32) × (Nat → Int64) × (Nat → Int32) × (Nat → Int32)) t => xPost (dC, dI) A (wld_X9_rounds cI cJ cZ h_p0 ad_p0 ad_p0_net ad_p0_ofSteps p0_goings p0_latestFault p0_net_places p0_net_steps p0_net_coloured (u.1) (u.2.1) p0_net_puts p0_net_takes (u.2.2.1) (u.2.2.2.1) (u.2.2.2.2)) t) A
def w_X9_rounds (p0_net_places : Int32) (p0_net_steps : Int32) (p0_ofSteps_rows : Int32) (p0_ofSteps_size : Int32) (p0_net_puts : Nat → Int32) (p0_net_takes : Nat → Int32) (p0_ofSteps_cells : Nat → Int64) (p0_ofSteps_found : Nat → Int32) (p0_ofSteps_out : Nat → Int32) (post : Int32 → (Int32) → (Int32) → (Nat → Int64) → (Nat → Int32) → (Nat → Int32) → Prop) : Prop :=
  w_X0_solve p0_ofSteps_rows p0_ofSteps_size p0_net_places p0_net_steps p0_ofSteps_cells p0_ofSteps_found p0_ofSteps_out p0_net_puts p0_net_takes (0 : Int32) (fun r1 y2 y3 y4 y5 y6 =>
  (r1 = 0 →
    (post (-2000000004 : Int32) y2 y3 y4 y5 y6)) ∧
  (¬ r1 = 0 →
    (post y3 y2 y3 y4 y5 y6)))
set_option maxHeartbeats 4000000 in
set_option maxRecDepth 100000 in
theorem c_X9_rounds {l : Launch} {dC : Nat → ClassId} {dI : Nat → Nat → Nat} {sz : Nat} {cI cJ cZ : ClassId} {h_p0 : Nat} {ad_p0 : Nat → Nat} {ad_p0_net : Nat → Nat} {ad_p0_ofSteps : Nat → Nat} {p0_goings : Int32} {p0_latestFault : Int32} {p0_net_places : Int32} {p0_net_steps : Int32} {p0_net_coloured : Int32} {p0_ofSteps_rows : Int32} {p0_ofSteps_size : Int32} {p0_net_puts : Nat → Int32} {p0_net_takes : Nat → Int32} {p0_ofSteps_cells : Nat → Int64} {p0_ofSteps_found : Nat → Int32} {p0_ofSteps_out : Nat → Int32}  {post : Int32 → (Int32) → (Int32) → (Nat → Int64) → (Nat → Int32) → (Nat → Int32) → Prop} (hw : w_X9_rounds p0_net_places p0_net_steps p0_ofSteps_rows p0_ofSteps_size p0_net_puts p0_net_takes p0_ofSteps_cells p0_ofSteps_found p0_ofSteps_out post) : Met l yX9_rounds wsX9_rounds ({ frames := 4, cells := 0, slots := 0, locals := 110 }) (va_Pc [.ref h_p0] (xPre (dC, dI) cI cJ cZ (wld_X9_rounds cI cJ cZ h_p0 ad_p0 ad_p0_net ad_p0_ofSteps p0_goings p0_latestFault p0_net_places p0_net_steps p0_net_coloured p0_ofSteps_rows p0_ofSteps_size p0_net_puts p0_net_takes p0_ofSteps_cells p0_ofSteps_found p0_ofSteps_out) sz)) (q_X9_rounds dC dI cI cJ cZ h_p0 ad_p0 ad_p0_net ad_p0_ofSteps p0_goings p0_latestFault p0_net_places p0_net_steps p0_net_coloured p0_ofSteps_rows p0_ofSteps_size p0_net_puts p0_net_takes p0_ofSteps_cells p0_ofSteps_found p0_ofSteps_out post (va_A (wld_X9_rounds cI cJ cZ h_p0 ad_p0 ad_p0_net ad_p0_ofSteps p0_goings p0_latestFault p0_net_places p0_net_steps p0_net_coloured p0_ofSteps_rows p0_ofSteps_size p0_net_puts p0_net_takes p0_ofSteps_cells p0_ofSteps_found p0_ofSteps_out) sz)) 0 0 (va_A (wld_X9_rounds cI cJ cZ h_p0 ad_p0 ad_p0_net ad_p0_ofSteps p0_goings p0_latestFault p0_net_places p0_net_steps p0_net_coloured p0_ofSteps_rows p0_ofSteps_size p0_net_puts p0_net_takes p0_ofSteps_cells p0_ofSteps_found p0_ofSteps_out) sz) := by
  refine x_met (cc := cX9_rounds) (maxL := 1) (ret := (some .int)) (own := RX9) (Qc := fun A => (q_X9_rounds dC dI cI cJ cZ h_p0 ad_p0 ad_p0_net ad_p0_ofSteps p0_goings p0_latestFault p0_net_places p0_net_steps p0_net_coloured p0_ofSteps_rows p0_ofSteps_size p0_net_puts p0_net_takes p0_ofSteps_cells p0_ofSteps_found p0_ofSteps_out post A)) (by decide) rfl rfl (Nat.le_of_ble_eq_true rfl) ?_
  intro p e s m args below meth c A ls E0 hP hD hS hl
  obtain ⟨hx, hb, hr, hml, hown, hts, hlocks, hK, hA, n1, n2⟩ := id E0
  have iX0 : ∀ w ∈ u_ws RX0 TX0 5, w ∈ wsX9_rounds := fun w h => List.mem_cons_of_mem _ (List.mem_append_left _ (List.mem_append_right _ h))
  have iX5 : ∀ w ∈ u_ws RX5 TX5 14, w ∈ wsX9_rounds := fun w h => List.mem_cons_of_mem _ (List.mem_append_right _ h)
  have iX9 : ∀ w ∈ u_ws RX9 TX9 12, w ∈ wsX9_rounds := fun w h => List.mem_cons_of_mem _ (List.mem_append_left _ (List.mem_append_left _ (List.mem_append_right _ h)))
  have hS0 := hS
  have hl : lv_has ls 1 [(0, .ref h_p0)] := hl
  unfold w_X9_rounds at hw
  obtain ⟨H, hH⟩ : ∃ H, H = s.heap := ⟨_, rfl⟩
  have hS : va_S A s.heap H [] := by rw [hH]; exact hS
  have hP : va_P (dC, dI) vwCl (wld_X9_rounds cI cJ cZ h_p0 ad_p0 ad_p0_net ad_p0_ofSteps p0_goings p0_latestFault p0_net_places p0_net_steps p0_net_coloured p0_ofSteps_rows p0_ofSteps_size p0_net_puts p0_net_takes p0_ofSteps_cells p0_ofSteps_found p0_ofSteps_out) H := by rw [hH]; exact hP
  suffices hG : W p l e ({ frames := 4, cells := 0, slots := 0, locals := 110 }) s m args below meth c H [] 0 0 (MQ below (q_X9_rounds dC dI cI cJ cZ h_p0 ad_p0 ad_p0_net ad_p0_ofSteps p0_goings p0_latestFault p0_net_places p0_net_steps p0_net_coloured p0_ofSteps_rows p0_ofSteps_size p0_net_puts p0_net_takes p0_ofSteps_cells p0_ofSteps_found p0_ofSteps_out post A) args s 0 0 A) (F0 m 0 ls []) by rw [hH] at hG; exact hG
  clear hH
  refine lv_aload_n hx hb dX9_rounds_0 rfl (lv_at hl 0 rfl) ?_
  refine va_get (D := (dC, dI)) (ci := 9) (v := .ref (ad_p0 8)) (C := RX9) (T := TX9) (N := 12) hx hb hts iX9 hown hK hP 0 rfl rfl 8 (by decide) (hts (.fieldLink RX9 61 "NetHouse" "ofSteps" "LNetHouse$Balance;") (by decide +kernel)) (fun _ h9 => h9) rfl dX9_rounds_1 ?_
  refine lv_aload_n hx hb dX9_rounds_4 rfl (lv_at hl 0 rfl) ?_
  refine va_get (D := (dC, dI)) (ci := 9) (v := .ref (ad_p0 0)) (C := RX9) (T := TX9) (N := 12) hx hb hts iX9 hown hK hP 0 rfl rfl 0 (by decide) (hts (.fieldLink RX9 10 "NetHouse" "net" "LNetHouse$Net;") (by decide +kernel)) (fun _ h9 => h9) rfl dX9_rounds_5 ?_
  refine lv_iconst (v := 0) hx hb dX9_rounds_8 (by decide) ?_
  obtain ⟨hPc, hDc⟩ := x_sub (wc := (wld_X0_solve cI cJ cZ (ad_p0 8) (ad_p0 0) ad_p0_ofSteps ad_p0_net p0_ofSteps_rows p0_ofSteps_size p0_net_places p0_net_steps p0_net_coloured p0_ofSteps_cells p0_ofSteps_found p0_ofSteps_out p0_net_puts p0_net_takes)) hP hD [4, 5, 6, 7, 1, 2, 3] (n := 8) rfl rfl (by decide +kernel)
  refine x_calli (ws' := fun (u : (Int32) × (Int32) × (Nat → Int64) × (Nat → Int32) × (Nat → Int32)) => (wld_X9_rounds cI cJ cZ h_p0 ad_p0 ad_p0_net ad_p0_ofSteps p0_goings p0_latestFault p0_net_places p0_net_steps p0_net_coloured (u.1) (u.2.1) p0_net_puts p0_net_takes (u.2.2.1) (u.2.2.2.1) (u.2.2.2.2))) hP hD hS hA [4, 5, 6, 7, 1, 2, 3] [0] [0, 5, 6, 7, 1, 2, 3, 4] (n := 8) (k := 7) rfl (fun _ => rfl) rfl (by decide +kernel) (fun _ => rfl) (va_runV (As := [.ref (ad_p0 0), .int (0 : Int32)]) (rest := []) ⟨hx, hb, hml, hown, hts⟩ (c_X0_solve (l := l) (dC := dC) (dI := dI) (cI := cI) (cJ := cJ) (cZ := cZ) (sz := H.size) (h_p0 := (ad_p0 8)) (h_p1 := (ad_p0 0)) (ad_p0 := ad_p0_ofSteps) (ad_p1 := ad_p0_net) (p0_rows := p0_ofSteps_rows) (p0_size := p0_ofSteps_size) (p1_places := p0_net_places) (p1_steps := p0_net_steps) (p1_coloured := p0_net_coloured) (p0_cells := p0_ofSteps_cells) (p0_found := p0_ofSteps_found) (p0_out := p0_ofSteps_out) (p1_puts := p0_net_puts) (p1_takes := p0_net_takes) hw) (cwV 2 hts gX9_rounds_X0_solve rfl rfl rfl (by decide +kernel) ⟨Nat.le_of_ble_eq_true rfl, Nat.le_of_ble_eq_true rfl⟩) ⟨xPre_blind, va_recv hK hP (ci := 0) (q0 := 4) rfl rfl, xPre_at hK hPc hDc n1 n2⟩ rfl rfl hl.1 rfl (lv_room (Nat.le_of_ble_eq_true rfl)) dX9_rounds_9 ⟨Nat.zero_le _, Nat.zero_le _⟩) (fun r1 u H locs hw hP hD hS => ?_)
  obtain ⟨y2, y3, y4, y5, y6⟩ := u
  try dsimp only at hw
  have hP : va_P (dC, dI) vwCl (wld_X9_rounds cI cJ cZ h_p0 ad_p0 ad_p0_net ad_p0_ofSteps p0_goings p0_latestFault p0_net_places p0_net_steps p0_net_coloured y2 y3 p0_net_puts p0_net_takes y4 y5 y6) H := hP
  have hD : va_D A (wld_X9_rounds cI cJ cZ h_p0 ad_p0 ad_p0_net ad_p0_ofSteps p0_goings p0_latestFault p0_net_places p0_net_steps p0_net_coloured y2 y3 p0_net_puts p0_net_takes y4 y5 y6) := hD
  refine lv_if_eq (tgt := 25) hx hb dX9_rounds_12 (by decide) (fun c7 => ?_) (fun c8 => ?_)
  · have hw := hw.1 c7
    refine lv_ldc (v := -2000000004) hx hb hown (hts (.constant RX9 255 (-2000000004)) (by decide +kernel)) dX9_rounds_25 ?_
    exact x_iret (w1 := fun (u : (Int32) × (Int32) × (Nat → Int64) × (Nat → Int32) × (Nat → Int32)) => (wld_X9_rounds cI cJ cZ h_p0 ad_p0 ad_p0_net ad_p0_ofSteps p0_goings p0_latestFault p0_net_places p0_net_steps p0_net_coloured (u.1) (u.2.1) p0_net_puts p0_net_takes (u.2.2.1) (u.2.2.2.1) (u.2.2.2.2))) hx hb hr hlocks (y2, y3, y4, y5, y6) hw hP hD hS dX9_rounds_27
  · have hw := hw.2 c8
    refine lv_aload_n hx hb dX9_rounds_15 rfl (lv_at hl 0 rfl) ?_
    refine va_get (D := (dC, dI)) (ci := 9) (v := .ref (ad_p0 8)) (C := RX9) (T := TX9) (N := 12) hx hb hts iX9 hown hK hP 0 rfl rfl 8 (by decide) (hts (.fieldLink RX9 61 "NetHouse" "ofSteps" "LNetHouse$Balance;") (by decide +kernel)) (fun _ h9 => h9) rfl dX9_rounds_16 ?_
    refine va_get (D := (dC, dI)) (ci := 0) (v := .int y3) (C := RX0) (T := TX0) (N := 5) hx hb hts iX0 hown hK hP 4 rfl rfl 4 (by decide) (hts (.fieldLink RX9 340 "NetHouse$Balance" "size" "I") (by decide +kernel)) (fun _ h9 => h9) rfl dX9_rounds_19 ?_
    refine lv_goto (tgt := 27) hx hb dX9_rounds_22 (by decide) ?_
    exact x_iret (w1 := fun (u : (Int32) × (Int32) × (Nat → Int64) × (Nat → Int32) × (Nat → Int32)) => (wld_X9_rounds cI cJ cZ h_p0 ad_p0 ad_p0_net ad_p0_ofSteps p0_goings p0_latestFault p0_net_places p0_net_steps p0_net_coloured (u.1) (u.2.1) p0_net_puts p0_net_takes (u.2.2.1) (u.2.2.2.1) (u.2.2.2.2))) hx hb hr hlocks (y2, y3, y4, y5, y6) hw hP hD hS dX9_rounds_27
abbrev wld_X9_round (cI cJ cZ : ClassId) (h_p0 : Nat) (ad_p0 : Nat → Nat) (ad_p0_net : Nat → Nat) (ad_p0_ofSteps : Nat → Nat) (p0_goings : Int32) (p0_latestFault : Int32) (p0_net_places : Int32) (p0_net_steps : Int32) (p0_net_coloured : Int32) (p0_ofSteps_rows : Int32) (p0_ofSteps_size : Int32) (p0_ofSteps_found : Nat → Int32) : va_W := [(h_p0, .inr (9, [.ref (ad_p0 0), .ref (ad_p0 1), .ref (ad_p0 2), .ref (ad_p0 3), .ref (ad_p0 4), .ref (ad_p0 5), .ref (ad_p0 6), .ref (ad_p0 7), .ref (ad_p0 8), .ref (ad_p0 9), .int p0_goings, .int p0_latestFault])), ((ad_p0 0), .inr (5, [.ref (ad_p0_net 0), .ref (ad_p0_net 1), .ref (ad_p0_net 2), .ref (ad_p0_net 3), .ref (ad_p0_net 4), .ref (ad_p0_net 5), .ref (ad_p0_net 6), .ref (ad_p0_net 7), .ref (ad_p0_net 8), .ref (ad_p0_net 9), .ref (ad_p0_net 10), .int p0_net_places, .int p0_net_steps, .int p0_net_coloured])), ((ad_p0 8), .inr (0, [.ref (ad_p0_ofSteps 0), .ref (ad_p0_ofSteps 1), .ref (ad_p0_ofSteps 2), .int p0_ofSteps_rows, .int p0_ofSteps_size])), ((ad_p0_ofSteps 2), .inl (cI, 256, .inl p0_ofSteps_found))]
abbrev q_X9_round (dC : Nat → ClassId) (dI : Nat → Nat → Nat) (cI cJ cZ : ClassId) (h_p0 : Nat) (ad_p0 : Nat → Nat) (ad_p0_net : Nat → Nat) (ad_p0_ofSteps : Nat → Nat) (p0_goings : Int32) (p0_latestFault : Int32) (p0_net_places : Int32) (p0_net_steps : Int32) (p0_net_coloured : Int32) (p0_ofSteps_rows : Int32) (p0_ofSteps_size : Int32) (p0_ofSteps_found : Nat → Int32) (post : Int32 → Prop) (A : Nat → Prop) : Array Value → State → Outcome → State → Prop := va_Qi (fun r (u : Unit) => post r ) (fun (u : Unit) t => xPost (dC, dI) A (wld_X9_round cI cJ cZ h_p0 ad_p0 ad_p0_net ad_p0_ofSteps p0_goings p0_latestFault p0_net_places p0_net_steps p0_net_coloured p0_ofSteps_rows p0_ofSteps_size p0_ofSteps_found) t) A
def w_X9_round (p0_net_steps : Int32) (p0_ofSteps_size : Int32) (p0_ofSteps_found : Nat → Int32) (a1 : Int32) (a2 : Int32) (post : Int32 → Prop) : Prop :=
  w_X5_hasStep p0_net_steps a2 (fun r1 =>
  (r1 = 0 →
    (post (-2000000001 : Int32))) ∧
  (¬ r1 = 0 →
    w_X0_has p0_ofSteps_size a1 (fun r4 =>
    (r4 = 0 →
      (post (-2000000001 : Int32))) ∧
    (¬ r4 = 0 →
      w_X0_numberAt p0_ofSteps_found a1 a2 (fun r7 =>
      (post r7))))))
set_option maxHeartbeats 4000000 in
set_option maxRecDepth 100000 in
theorem c_X9_round {l : Launch} {dC : Nat → ClassId} {dI : Nat → Nat → Nat} {sz : Nat} {cI cJ cZ : ClassId} {h_p0 : Nat} {ad_p0 : Nat → Nat} {ad_p0_net : Nat → Nat} {ad_p0_ofSteps : Nat → Nat} {p0_goings : Int32} {p0_latestFault : Int32} {p0_net_places : Int32} {p0_net_steps : Int32} {p0_net_coloured : Int32} {p0_ofSteps_rows : Int32} {p0_ofSteps_size : Int32} {p0_ofSteps_found : Nat → Int32} {a1 : Int32} {a2 : Int32} {post : Int32 → Prop} (hw : w_X9_round p0_net_steps p0_ofSteps_size p0_ofSteps_found a1 a2 post) : Met l yX9_round wsX9_round ({ frames := 1, cells := 0, slots := 0, locals := 22 }) (va_Pc [.ref h_p0, .int a1, .int a2] (xPre (dC, dI) cI cJ cZ (wld_X9_round cI cJ cZ h_p0 ad_p0 ad_p0_net ad_p0_ofSteps p0_goings p0_latestFault p0_net_places p0_net_steps p0_net_coloured p0_ofSteps_rows p0_ofSteps_size p0_ofSteps_found) sz)) (q_X9_round dC dI cI cJ cZ h_p0 ad_p0 ad_p0_net ad_p0_ofSteps p0_goings p0_latestFault p0_net_places p0_net_steps p0_net_coloured p0_ofSteps_rows p0_ofSteps_size p0_ofSteps_found post (va_A (wld_X9_round cI cJ cZ h_p0 ad_p0 ad_p0_net ad_p0_ofSteps p0_goings p0_latestFault p0_net_places p0_net_steps p0_net_coloured p0_ofSteps_rows p0_ofSteps_size p0_ofSteps_found) sz)) 0 0 (va_A (wld_X9_round cI cJ cZ h_p0 ad_p0 ad_p0_net ad_p0_ofSteps p0_goings p0_latestFault p0_net_places p0_net_steps p0_net_coloured p0_ofSteps_rows p0_ofSteps_size p0_ofSteps_found) sz) := by
  refine x_met (cc := cX9_round) (maxL := 3) (ret := (some .int)) (own := RX9) (Qc := fun A => (q_X9_round dC dI cI cJ cZ h_p0 ad_p0 ad_p0_net ad_p0_ofSteps p0_goings p0_latestFault p0_net_places p0_net_steps p0_net_coloured p0_ofSteps_rows p0_ofSteps_size p0_ofSteps_found post A)) (by decide) rfl rfl (Nat.le_of_ble_eq_true rfl) ?_
  intro p e s m args below meth c A ls E0 hP hD hS hl
  obtain ⟨hx, hb, hr, hml, hown, hts, hlocks, hK, hA, n1, n2⟩ := id E0
  have iX0 : ∀ w ∈ u_ws RX0 TX0 5, w ∈ wsX9_round := fun w h => List.mem_cons_of_mem _ (List.mem_append_right _ h)
  have iX5 : ∀ w ∈ u_ws RX5 TX5 14, w ∈ wsX9_round := fun w h => List.mem_cons_of_mem _ (List.mem_append_left _ (List.mem_append_right _ h))
  have iX9 : ∀ w ∈ u_ws RX9 TX9 12, w ∈ wsX9_round := fun w h => List.mem_cons_of_mem _ (List.mem_append_left _ (List.mem_append_left _ (List.mem_append_right _ h)))
  have hS0 := hS
  have hl : lv_has ls 3 [(0, .ref h_p0), (1, .int a1), (2, .int a2)] := hl
  unfold w_X9_round at hw
  obtain ⟨H, hH⟩ : ∃ H, H = s.heap := ⟨_, rfl⟩
  have hS : va_S A s.heap H [] := by rw [hH]; exact hS
  have hP : va_P (dC, dI) vwCl (wld_X9_round cI cJ cZ h_p0 ad_p0 ad_p0_net ad_p0_ofSteps p0_goings p0_latestFault p0_net_places p0_net_steps p0_net_coloured p0_ofSteps_rows p0_ofSteps_size p0_ofSteps_found) H := by rw [hH]; exact hP
  suffices hG : W p l e ({ frames := 1, cells := 0, slots := 0, locals := 22 }) s m args below meth c H [] 0 0 (MQ below (q_X9_round dC dI cI cJ cZ h_p0 ad_p0 ad_p0_net ad_p0_ofSteps p0_goings p0_latestFault p0_net_places p0_net_steps p0_net_coloured p0_ofSteps_rows p0_ofSteps_size p0_ofSteps_found post A) args s 0 0 A) (F0 m 0 ls []) by rw [hH] at hG; exact hG
  clear hH
  refine lv_aload_n hx hb dX9_round_0 rfl (lv_at hl 0 rfl) ?_
  refine va_get (D := (dC, dI)) (ci := 9) (v := .ref (ad_p0 0)) (C := RX9) (T := TX9) (N := 12) hx hb hts iX9 hown hK hP 0 rfl rfl 0 (by decide) (hts (.fieldLink RX9 10 "NetHouse" "net" "LNetHouse$Net;") (by decide +kernel)) (fun _ h9 => h9) rfl dX9_round_1 ?_
  refine lv_iload_n hx hb dX9_round_4 rfl (lv_at hl 2 rfl) ?_
  obtain ⟨hPc, hDc⟩ := x_sub (wc := (wld_X5_hasStep cI cJ cZ (ad_p0 0) ad_p0_net p0_net_places p0_net_steps p0_net_coloured)) hP hD [1] (n := 4) rfl rfl (by decide +kernel)
  refine x_calli (ws' := fun (u : Unit) => (wld_X9_round cI cJ cZ h_p0 ad_p0 ad_p0_net ad_p0_ofSteps p0_goings p0_latestFault p0_net_places p0_net_steps p0_net_coloured p0_ofSteps_rows p0_ofSteps_size p0_ofSteps_found)) hP hD hS hA [1] [0, 2, 3] [0, 3, 1, 2] (n := 4) (k := 1) rfl (fun _ => rfl) rfl (by decide +kernel) (fun _ => rfl) (va_runV (As := [.int a2]) (rest := []) ⟨hx, hb, hml, hown, hts⟩ (c_X5_hasStep (l := l) (dC := dC) (dI := dI) (cI := cI) (cJ := cJ) (cZ := cZ) (sz := H.size) (h_p0 := (ad_p0 0)) (ad_p0 := ad_p0_net) (p0_places := p0_net_places) (p0_steps := p0_net_steps) (p0_coloured := p0_net_coloured) hw) (cwV 1 hts gX9_round_X5_hasStep rfl rfl rfl (by decide +kernel) ⟨Nat.le_of_ble_eq_true rfl, Nat.le_of_ble_eq_true rfl⟩) ⟨xPre_blind, va_recv hK hP (ci := 5) (q0 := 1) rfl rfl, xPre_at hK hPc hDc n1 n2⟩ rfl rfl hl.1 rfl (lv_room (Nat.le_of_ble_eq_true rfl)) dX9_round_5 ⟨Nat.zero_le _, Nat.zero_le _⟩) (fun r1 u H locs hw hP hD hS => ?_)
  try dsimp only at hw
  have hP : va_P (dC, dI) vwCl (wld_X9_round cI cJ cZ h_p0 ad_p0 ad_p0_net ad_p0_ofSteps p0_goings p0_latestFault p0_net_places p0_net_steps p0_net_coloured p0_ofSteps_rows p0_ofSteps_size p0_ofSteps_found) H := hP
  have hD : va_D A (wld_X9_round cI cJ cZ h_p0 ad_p0 ad_p0_net ad_p0_ofSteps p0_goings p0_latestFault p0_net_places p0_net_steps p0_net_coloured p0_ofSteps_rows p0_ofSteps_size p0_ofSteps_found) := hD
  refine lv_if_eq (tgt := 34) hx hb dX9_round_8 (by decide) (fun c2 => ?_) (fun c3 => ?_)
  · have hw := hw.1 c2
    refine lv_ldc (v := -2000000001) hx hb hown (hts (.constant RX9 79 (-2000000001)) (by decide +kernel)) dX9_round_34 ?_
    exact x_iret (w1 := fun (u : Unit) => (wld_X9_round cI cJ cZ h_p0 ad_p0 ad_p0_net ad_p0_ofSteps p0_goings p0_latestFault p0_net_places p0_net_steps p0_net_coloured p0_ofSteps_rows p0_ofSteps_size p0_ofSteps_found)) hx hb hr hlocks () hw hP hD hS dX9_round_36
  · have hw := hw.2 c3
    refine lv_aload_n hx hb dX9_round_11 rfl (lv_at hl 0 rfl) ?_
    refine va_get (D := (dC, dI)) (ci := 9) (v := .ref (ad_p0 8)) (C := RX9) (T := TX9) (N := 12) hx hb hts iX9 hown hK hP 0 rfl rfl 8 (by decide) (hts (.fieldLink RX9 61 "NetHouse" "ofSteps" "LNetHouse$Balance;") (by decide +kernel)) (fun _ h9 => h9) rfl dX9_round_12 ?_
    refine lv_iload_n hx hb dX9_round_15 rfl (lv_at hl 1 rfl) ?_
    obtain ⟨hPc, hDc⟩ := x_sub (wc := (wld_X0_has cI cJ cZ (ad_p0 8) ad_p0_ofSteps p0_ofSteps_rows p0_ofSteps_size)) hP hD [2] (n := 4) rfl rfl (by decide +kernel)
    refine x_calli (ws' := fun (u : Unit) => (wld_X9_round cI cJ cZ h_p0 ad_p0 ad_p0_net ad_p0_ofSteps p0_goings p0_latestFault p0_net_places p0_net_steps p0_net_coloured p0_ofSteps_rows p0_ofSteps_size p0_ofSteps_found)) hP hD hS hA [2] [0, 1, 3] [0, 1, 3, 2] (n := 4) (k := 1) rfl (fun _ => rfl) rfl (by decide +kernel) (fun _ => rfl) (va_runV (As := [.int a1]) (rest := []) ⟨hx, hb, hml, hown, hts⟩ (c_X0_has (l := l) (dC := dC) (dI := dI) (cI := cI) (cJ := cJ) (cZ := cZ) (sz := H.size) (h_p0 := (ad_p0 8)) (ad_p0 := ad_p0_ofSteps) (p0_rows := p0_ofSteps_rows) (p0_size := p0_ofSteps_size) hw) (cwV 1 hts gX9_round_X0_has rfl rfl rfl (by decide +kernel) ⟨Nat.le_of_ble_eq_true rfl, Nat.le_of_ble_eq_true rfl⟩) ⟨xPre_blind, va_recv hK hP (ci := 0) (q0 := 2) rfl rfl, xPre_at hK hPc hDc n1 n2⟩ rfl rfl hl.1 rfl (lv_room (Nat.le_of_ble_eq_true rfl)) dX9_round_16 ⟨Nat.zero_le _, Nat.zero_le _⟩) (fun r4 u H locs hw hP hD hS => ?_)
    try dsimp only at hw
    have hP : va_P (dC, dI) vwCl (wld_X9_round cI cJ cZ h_p0 ad_p0 ad_p0_net ad_p0_ofSteps p0_goings p0_latestFault p0_net_places p0_net_steps p0_net_coloured p0_ofSteps_rows p0_ofSteps_size p0_ofSteps_found) H := hP
    have hD : va_D A (wld_X9_round cI cJ cZ h_p0 ad_p0 ad_p0_net ad_p0_ofSteps p0_goings p0_latestFault p0_net_places p0_net_steps p0_net_coloured p0_ofSteps_rows p0_ofSteps_size p0_ofSteps_found) := hD
    refine lv_if_eq (tgt := 34) hx hb dX9_round_19 (by decide) (fun c5 => ?_) (fun c6 => ?_)
    · have hw := hw.1 c5
      refine lv_ldc (v := -2000000001) hx hb hown (hts (.constant RX9 79 (-2000000001)) (by decide +kernel)) dX9_round_34 ?_
      exact x_iret (w1 := fun (u : Unit) => (wld_X9_round cI cJ cZ h_p0 ad_p0 ad_p0_net ad_p0_ofSteps p0_goings p0_latestFault p0_net_places p0_net_steps p0_net_coloured p0_ofSteps_rows p0_ofSteps_size p0_ofSteps_found)) hx hb hr hlocks () hw hP hD hS dX9_round_36
    · have hw := hw.2 c6
      refine lv_aload_n hx hb dX9_round_22 rfl (lv_at hl 0 rfl) ?_
      refine va_get (D := (dC, dI)) (ci := 9) (v := .ref (ad_p0 8)) (C := RX9) (T := TX9) (N := 12) hx hb hts iX9 hown hK hP 0 rfl rfl 8 (by decide) (hts (.fieldLink RX9 61 "NetHouse" "ofSteps" "LNetHouse$Balance;") (by decide +kernel)) (fun _ h9 => h9) rfl dX9_round_23 ?_
      refine lv_iload_n hx hb dX9_round_26 rfl (lv_at hl 1 rfl) ?_
      refine lv_iload_n hx hb dX9_round_27 rfl (lv_at hl 2 rfl) ?_
      obtain ⟨hPc, hDc⟩ := x_sub (wc := (wld_X0_numberAt cI cJ cZ (ad_p0 8) ad_p0_ofSteps p0_ofSteps_rows p0_ofSteps_size p0_ofSteps_found)) hP hD [2, 3] (n := 4) rfl rfl (by decide +kernel)
      refine x_calli (ws' := fun (u : Unit) => (wld_X9_round cI cJ cZ h_p0 ad_p0 ad_p0_net ad_p0_ofSteps p0_goings p0_latestFault p0_net_places p0_net_steps p0_net_coloured p0_ofSteps_rows p0_ofSteps_size p0_ofSteps_found)) hP hD hS hA [2, 3] [0, 1] [0, 1, 2, 3] (n := 4) (k := 2) rfl (fun _ => rfl) rfl (by decide +kernel) (fun _ => rfl) (va_runV (As := [.int a1, .int a2]) (rest := []) ⟨hx, hb, hml, hown, hts⟩ (c_X0_numberAt (l := l) (dC := dC) (dI := dI) (cI := cI) (cJ := cJ) (cZ := cZ) (sz := H.size) (h_p0 := (ad_p0 8)) (ad_p0 := ad_p0_ofSteps) (p0_rows := p0_ofSteps_rows) (p0_size := p0_ofSteps_size) (p0_found := p0_ofSteps_found) hw) (cwV 2 hts gX9_round_X0_numberAt rfl rfl rfl (by decide +kernel) ⟨Nat.le_of_ble_eq_true rfl, Nat.le_of_ble_eq_true rfl⟩) ⟨xPre_blind, va_recv hK hP (ci := 0) (q0 := 2) rfl rfl, xPre_at hK hPc hDc n1 n2⟩ rfl rfl hl.1 rfl (lv_room (Nat.le_of_ble_eq_true rfl)) dX9_round_28 ⟨Nat.zero_le _, Nat.zero_le _⟩) (fun r7 u H locs hw hP hD hS => ?_)
      try dsimp only at hw
      have hP : va_P (dC, dI) vwCl (wld_X9_round cI cJ cZ h_p0 ad_p0 ad_p0_net ad_p0_ofSteps p0_goings p0_latestFault p0_net_places p0_net_steps p0_net_coloured p0_ofSteps_rows p0_ofSteps_size p0_ofSteps_found) H := hP
      have hD : va_D A (wld_X9_round cI cJ cZ h_p0 ad_p0 ad_p0_net ad_p0_ofSteps p0_goings p0_latestFault p0_net_places p0_net_steps p0_net_coloured p0_ofSteps_rows p0_ofSteps_size p0_ofSteps_found) := hD
      refine lv_goto (tgt := 36) hx hb dX9_round_31 (by decide) ?_
      exact x_iret (w1 := fun (u : Unit) => (wld_X9_round cI cJ cZ h_p0 ad_p0 ad_p0_net ad_p0_ofSteps p0_goings p0_latestFault p0_net_places p0_net_steps p0_net_coloured p0_ofSteps_rows p0_ofSteps_size p0_ofSteps_found)) hx hb hr hlocks () hw hP hD hS dX9_round_36
abbrev wld_X9_keeps (cI cJ cZ : ClassId) (h_p0 : Nat) (ad_p0 : Nat → Nat) (ad_p0_hand : Nat → Nat) (ad_p0_net : Nat → Nat) (p0_goings : Int32) (p0_latestFault : Int32) (p0_hand_rowSize : Int32) (p0_hand_waySize : Int32) (p0_net_places : Int32) (p0_net_steps : Int32) (p0_net_coloured : Int32) (p0_hand_row : Nat → Int32) (p0_net_puts : Nat → Int32) (p0_net_takes : Nat → Int32) : va_W := [(h_p0, .inr (9, [.ref (ad_p0 0), .ref (ad_p0 1), .ref (ad_p0 2), .ref (ad_p0 3), .ref (ad_p0 4), .ref (ad_p0 5), .ref (ad_p0 6), .ref (ad_p0 7), .ref (ad_p0 8), .ref (ad_p0 9), .int p0_goings, .int p0_latestFault])), ((ad_p0 4), .inr (2, [.ref (ad_p0_hand 0), .ref (ad_p0_hand 1), .int p0_hand_rowSize, .int p0_hand_waySize])), ((ad_p0_hand 0), .inl (cI, 16, .inl p0_hand_row)), ((ad_p0 0), .inr (5, [.ref (ad_p0_net 0), .ref (ad_p0_net 1), .ref (ad_p0_net 2), .ref (ad_p0_net 3), .ref (ad_p0_net 4), .ref (ad_p0_net 5), .ref (ad_p0_net 6), .ref (ad_p0_net 7), .ref (ad_p0_net 8), .ref (ad_p0_net 9), .ref (ad_p0_net 10), .int p0_net_places, .int p0_net_steps, .int p0_net_coloured])), ((ad_p0_net 3), .inl (cI, 256, .inl p0_net_puts)), ((ad_p0_net 2), .inl (cI, 256, .inl p0_net_takes))]
abbrev q_X9_keeps (dC : Nat → ClassId) (dI : Nat → Nat → Nat) (cI cJ cZ : ClassId) (h_p0 : Nat) (ad_p0 : Nat → Nat) (ad_p0_hand : Nat → Nat) (ad_p0_net : Nat → Nat) (p0_goings : Int32) (p0_latestFault : Int32) (p0_hand_rowSize : Int32) (p0_hand_waySize : Int32) (p0_net_places : Int32) (p0_net_steps : Int32) (p0_net_coloured : Int32) (p0_hand_row : Nat → Int32) (p0_net_puts : Nat → Int32) (p0_net_takes : Nat → Int32) (post : Int32 → Prop) (A : Nat → Prop) : Array Value → State → Outcome → State → Prop := va_Qi (fun r (u : Unit) => post r ) (fun (u : Unit) t => xPost (dC, dI) A (wld_X9_keeps cI cJ cZ h_p0 ad_p0 ad_p0_hand ad_p0_net p0_goings p0_latestFault p0_hand_rowSize p0_hand_waySize p0_net_places p0_net_steps p0_net_coloured p0_hand_row p0_net_puts p0_net_takes) t) A
def w_X9_keeps_L18b (v1 : Int32) (p0_hand_rowSize : Int32) (p0_net_places : Int32) (p0_net_steps : Int32) (p0_hand_row : Nat → Int32) (p0_net_puts : Nat → Int32) (p0_net_takes : Nat → Int32) (post : Int32 → Prop) (K : (Int64) → (Int32) → Prop) (rec : (Int64) → (Int32) → Prop) (v2 : Int64) (v4 : Int32) : Prop :=
    (p0_net_places ≤ v4 →
      K v2 v4) ∧
    (¬ p0_net_places ≤ v4 →
      w_X2_numberFor p0_hand_rowSize p0_hand_row v4 (fun r5 =>
      w_X5_change p0_net_puts p0_net_takes v1 v4 (fun r6 =>
      ∀ x7 : Int64, x7 = (v2 + (r5.toInt64 * r6.toInt64)) →
      ∀ x8 : Int32, x8 = v4 + (1 : Int32) →
      rec x7 x8)))
def w_X9_keeps_L18 (v1 : Int32) (p0_hand_rowSize : Int32) (p0_net_places : Int32) (p0_net_steps : Int32) (p0_hand_row : Nat → Int32) (p0_net_puts : Nat → Int32) (p0_net_takes : Nat → Int32) (post : Int32 → Prop) (K : (Int64) → (Int32) → Prop) : Nat → (Int64) → (Int32) → Prop
  | 0, _, _ => False
  | n + 1, v2, v4 => w_X9_keeps_L18b v1 p0_hand_rowSize p0_net_places p0_net_steps p0_hand_row p0_net_puts p0_net_takes post K (w_X9_keeps_L18 v1 p0_hand_rowSize p0_net_places p0_net_steps p0_hand_row p0_net_puts p0_net_takes post K n) v2 v4
def w_X9_keeps_L2b (p0_hand_rowSize : Int32) (p0_net_places : Int32) (p0_net_steps : Int32) (p0_hand_row : Nat → Int32) (p0_net_puts : Nat → Int32) (p0_net_takes : Nat → Int32) (post : Int32 → Prop) (K : (Int32) → Prop) (rec : (Int32) → Prop) (v1 : Int32) : Prop :=
    (p0_net_steps ≤ v1 →
      K v1) ∧
    (¬ p0_net_steps ≤ v1 →
      ∃ n : Nat, w_X9_keeps_L18 v1 p0_hand_rowSize p0_net_places p0_net_steps p0_hand_row p0_net_puts p0_net_takes post (fun v10 v11 =>
          ((lg_cmp v10 (0 : Int64)) = 0 →
            ∀ x14 : Int32, x14 = v1 + (1 : Int32) →
            rec x14) ∧
          (¬ (lg_cmp v10 (0 : Int64)) = 0 →
            (post (0 : Int32)))) n (0 : Int64) (0 : Int32))
def w_X9_keeps_L2 (p0_hand_rowSize : Int32) (p0_net_places : Int32) (p0_net_steps : Int32) (p0_hand_row : Nat → Int32) (p0_net_puts : Nat → Int32) (p0_net_takes : Nat → Int32) (post : Int32 → Prop) (K : (Int32) → Prop) : Nat → (Int32) → Prop
  | 0, _ => False
  | n + 1, v1 => w_X9_keeps_L2b p0_hand_rowSize p0_net_places p0_net_steps p0_hand_row p0_net_puts p0_net_takes post K (w_X9_keeps_L2 p0_hand_rowSize p0_net_places p0_net_steps p0_hand_row p0_net_puts p0_net_takes post K n) v1
def w_X9_keeps (p0_hand_rowSize : Int32) (p0_net_places : Int32) (p0_net_steps : Int32) (p0_hand_row : Nat → Int32) (p0_net_puts : Nat → Int32) (p0_net_takes : Nat → Int32) (post : Int32 → Prop) : Prop :=
  ∃ n : Nat, w_X9_keeps_L2 p0_hand_rowSize p0_net_places p0_net_steps p0_hand_row p0_net_puts p0_net_takes post (fun v16 =>
      (post (1 : Int32))) n (0 : Int32)
set_option maxHeartbeats 4000000 in
set_option maxRecDepth 100000 in
theorem c_X9_keeps_L18 {p : Program} {l : Launch} {e : Env} {s : State} {m : MethodId} {args : Array Value} {below : List Frame} {meth : Method} {c : Code} {dC : Nat → ClassId} {dI : Nat → Nat → Nat} {A : Nat → Prop} {cI cJ cZ : ClassId} {h_p0 : Nat} {ad_p0 : Nat → Nat} {ad_p0_hand : Nat → Nat} {ad_p0_net : Nat → Nat} {p0_goings : Int32} {p0_latestFault : Int32} {p0_hand_rowSize : Int32} {p0_hand_waySize : Int32} {p0_net_places : Int32} {p0_net_steps : Int32} {p0_net_coloured : Int32} {p0_hand_row : Nat → Int32} {p0_net_puts : Nat → Int32} {p0_net_takes : Nat → Int32} {v1 : Int32}  {post : Int32 → Prop} {K : (Int64) → (Int32) → Prop} (E0 : xEnv p s m args meth c cX9_keeps (some .int) 5 RX9 wsX9_keeps (dC, dI) cI cJ cZ A) (hk : ∀ (v2 : Int64) (v4 : Int32) (H : Heap) (locs : List Loc) (ls : Array Slot), K v2 v4 → va_P (dC, dI) vwCl (wld_X9_keeps cI cJ cZ h_p0 ad_p0 ad_p0_hand ad_p0_net p0_goings p0_latestFault p0_hand_rowSize p0_hand_waySize p0_net_places p0_net_steps p0_net_coloured p0_hand_row p0_net_puts p0_net_takes) H → va_D A (wld_X9_keeps cI cJ cZ h_p0 ad_p0 ad_p0_hand ad_p0_net p0_goings p0_latestFault p0_hand_rowSize p0_hand_waySize p0_net_places p0_net_steps p0_net_coloured p0_hand_row p0_net_puts p0_net_takes) → va_S A s.heap H locs → lv_has ls 5 [(0, .ref h_p0), (1, .int v1), (2, .long v2)] → W p l e ({ frames := 2, cells := 0, slots := 0, locals := 43 }) s m args below meth c H locs 0 0 (MQ below (q_X9_keeps dC dI cI cJ cZ h_p0 ad_p0 ad_p0_hand ad_p0_net p0_goings p0_latestFault p0_hand_rowSize p0_hand_waySize p0_net_places p0_net_steps p0_net_coloured p0_hand_row p0_net_puts p0_net_takes post A) args s 0 0 A) (F0 m 61 ls [])) : ∀ (n : Nat) (v2 : Int64) (v4 : Int32), w_X9_keeps_L18 v1 p0_hand_rowSize p0_net_places p0_net_steps p0_hand_row p0_net_puts p0_net_takes post K n v2 v4 → ∀ (H : Heap) (locs : List Loc) (ls : Array Slot), va_P (dC, dI) vwCl (wld_X9_keeps cI cJ cZ h_p0 ad_p0 ad_p0_hand ad_p0_net p0_goings p0_latestFault p0_hand_rowSize p0_hand_waySize p0_net_places p0_net_steps p0_net_coloured p0_hand_row p0_net_puts p0_net_takes) H → va_D A (wld_X9_keeps cI cJ cZ h_p0 ad_p0 ad_p0_hand ad_p0_net p0_goings p0_latestFault p0_hand_rowSize p0_hand_waySize p0_net_places p0_net_steps p0_net_coloured p0_hand_row p0_net_puts p0_net_takes) → va_S A s.heap H locs → lv_has ls 5 [(0, .ref h_p0), (1, .int v1), (2, .long v2), (4, .int v4)] → W p l e ({ frames := 2, cells := 0, slots := 0, locals := 43 }) s m args below meth c H locs 0 0 (MQ below (q_X9_keeps dC dI cI cJ cZ h_p0 ad_p0 ad_p0_hand ad_p0_net p0_goings p0_latestFault p0_hand_rowSize p0_hand_waySize p0_net_places p0_net_steps p0_net_coloured p0_hand_row p0_net_puts p0_net_takes post A) args s 0 0 A) (F0 m 18 ls []) := by
  obtain ⟨hx, hb, hr, hml, hown, hts, hlocks, hK, hA, n1, n2⟩ := id E0
  have iX2 : ∀ w ∈ u_ws RX2 TX2 4, w ∈ wsX9_keeps := fun w h => List.mem_cons_of_mem _ (List.mem_append_right _ h)
  have iX5 : ∀ w ∈ u_ws RX5 TX5 14, w ∈ wsX9_keeps := fun w h => List.mem_cons_of_mem _ (List.mem_append_left _ (List.mem_append_right _ h))
  have iX9 : ∀ w ∈ u_ws RX9 TX9 12, w ∈ wsX9_keeps := fun w h => List.mem_cons_of_mem _ (List.mem_append_left _ (List.mem_append_left _ (List.mem_append_right _ h)))
  intro n
  induction n with
  | zero => intro v2 v4 hw; exact hw.elim
  | succ n ih =>
    intro v2 v4 hw H locs ls hP hD hS hl
    have hw : w_X9_keeps_L18b v1 p0_hand_rowSize p0_net_places p0_net_steps p0_hand_row p0_net_puts p0_net_takes post K (w_X9_keeps_L18 v1 p0_hand_rowSize p0_net_places p0_net_steps p0_hand_row p0_net_puts p0_net_takes post K n) v2 v4 := hw
    unfold w_X9_keeps_L18b at hw
    refine lv_iload hx hb dX9_keeps_18 (lv_at hl 3 rfl) ?_
    refine lv_aload_n hx hb dX9_keeps_20 rfl (lv_at hl 0 rfl) ?_
    refine va_get (D := (dC, dI)) (ci := 9) (v := .ref (ad_p0 0)) (C := RX9) (T := TX9) (N := 12) hx hb hts iX9 hown hK hP 0 rfl rfl 0 (by decide) (hts (.fieldLink RX9 10 "NetHouse" "net" "LNetHouse$Net;") (by decide +kernel)) (fun _ h9 => h9) rfl dX9_keeps_21 ?_
    refine va_get (D := (dC, dI)) (ci := 5) (v := .int p0_net_places) (C := RX5) (T := TX5) (N := 14) hx hb hts iX5 hown hK hP 3 rfl rfl 11 (by decide) (hts (.fieldLink RX9 80 "NetHouse$Net" "places" "I") (by decide +kernel)) (fun _ h9 => h9) rfl dX9_keeps_24 ?_
    refine lv_icmp_ge (tgt := 61) hx hb dX9_keeps_27 (by decide) (fun c3 => ?_) (fun c4 => ?_)
    · have hw := hw.1 c3
      exact hk _ _ _ _ _ hw hP hD hS (lv_sub hl [0, 1, 2] rfl)
    · have hw := hw.2 c4
      refine lv_lload_n hx hb dX9_keeps_30 rfl (lv_at hl 2 rfl) ?_
      refine lv_aload_n hx hb dX9_keeps_31 rfl (lv_at hl 0 rfl) ?_
      refine va_get (D := (dC, dI)) (ci := 9) (v := .ref (ad_p0 4)) (C := RX9) (T := TX9) (N := 12) hx hb hts iX9 hown hK hP 0 rfl rfl 4 (by decide) (hts (.fieldLink RX9 36 "NetHouse" "hand" "LNetHouse$Hand;") (by decide +kernel)) (fun _ h9 => h9) rfl dX9_keeps_32 ?_
      refine lv_iload hx hb dX9_keeps_35 (lv_at hl 3 rfl) ?_
      obtain ⟨hPc, hDc⟩ := x_sub (wc := (wld_X2_numberFor cI cJ cZ (ad_p0 4) ad_p0_hand p0_hand_rowSize p0_hand_waySize p0_hand_row)) hP hD [1, 2] (n := 6) rfl rfl (by decide +kernel)
      refine x_calli (ws' := fun (u : Unit) => (wld_X9_keeps cI cJ cZ h_p0 ad_p0 ad_p0_hand ad_p0_net p0_goings p0_latestFault p0_hand_rowSize p0_hand_waySize p0_net_places p0_net_steps p0_net_coloured p0_hand_row p0_net_puts p0_net_takes)) hP hD hS hA [1, 2] [0, 3, 4, 5] [0, 4, 5, 1, 2, 3] (n := 6) (k := 2) rfl (fun _ => rfl) rfl (by decide +kernel) (fun _ => rfl) (va_runV (As := [.int v4]) (rest := [.long v2]) ⟨hx, hb, hml, hown, hts⟩ (c_X2_numberFor (l := l) (dC := dC) (dI := dI) (cI := cI) (cJ := cJ) (cZ := cZ) (sz := H.size) (h_p0 := (ad_p0 4)) (ad_p0 := ad_p0_hand) (p0_rowSize := p0_hand_rowSize) (p0_waySize := p0_hand_waySize) (p0_row := p0_hand_row) hw) (cwV 1 hts gX9_keeps_X2_numberFor rfl rfl rfl (by decide +kernel) ⟨Nat.le_of_ble_eq_true rfl, Nat.le_of_ble_eq_true rfl⟩) ⟨xPre_blind, va_recv hK hP (ci := 2) (q0 := 1) rfl rfl, xPre_at hK hPc hDc n1 n2⟩ rfl rfl hl.1 rfl (lv_room (Nat.le_of_ble_eq_true rfl)) dX9_keeps_37 ⟨Nat.zero_le _, Nat.zero_le _⟩) (fun r5 u H locs hw hP hD hS => ?_)
      try dsimp only at hw
      have hP : va_P (dC, dI) vwCl (wld_X9_keeps cI cJ cZ h_p0 ad_p0 ad_p0_hand ad_p0_net p0_goings p0_latestFault p0_hand_rowSize p0_hand_waySize p0_net_places p0_net_steps p0_net_coloured p0_hand_row p0_net_puts p0_net_takes) H := hP
      have hD : va_D A (wld_X9_keeps cI cJ cZ h_p0 ad_p0 ad_p0_hand ad_p0_net p0_goings p0_latestFault p0_hand_rowSize p0_hand_waySize p0_net_places p0_net_steps p0_net_coloured p0_hand_row p0_net_puts p0_net_takes) := hD
      refine lv_i2l hx hb dX9_keeps_40 rfl ?_
      refine lv_aload_n hx hb dX9_keeps_41 rfl (lv_at hl 0 rfl) ?_
      refine va_get (D := (dC, dI)) (ci := 9) (v := .ref (ad_p0 0)) (C := RX9) (T := TX9) (N := 12) hx hb hts iX9 hown hK hP 0 rfl rfl 0 (by decide) (hts (.fieldLink RX9 10 "NetHouse" "net" "LNetHouse$Net;") (by decide +kernel)) (fun _ h9 => h9) rfl dX9_keeps_42 ?_
      refine lv_iload_n hx hb dX9_keeps_45 rfl (lv_at hl 1 rfl) ?_
      refine lv_iload hx hb dX9_keeps_46 (lv_at hl 3 rfl) ?_
      obtain ⟨hPc, hDc⟩ := x_sub (wc := (wld_X5_change cI cJ cZ (ad_p0 0) ad_p0_net p0_net_places p0_net_steps p0_net_coloured p0_net_puts p0_net_takes)) hP hD [3, 4, 5] (n := 6) rfl rfl (by decide +kernel)
      refine x_calli (ws' := fun (u : Unit) => (wld_X9_keeps cI cJ cZ h_p0 ad_p0 ad_p0_hand ad_p0_net p0_goings p0_latestFault p0_hand_rowSize p0_hand_waySize p0_net_places p0_net_steps p0_net_coloured p0_hand_row p0_net_puts p0_net_takes)) hP hD hS hA [3, 4, 5] [0, 1, 2] [0, 1, 2, 3, 4, 5] (n := 6) (k := 3) rfl (fun _ => rfl) rfl (by decide +kernel) (fun _ => rfl) (va_runV (As := [.int v1, .int v4]) (rest := [.long r5.toInt64, .long v2]) ⟨hx, hb, hml, hown, hts⟩ (c_X5_change (l := l) (dC := dC) (dI := dI) (cI := cI) (cJ := cJ) (cZ := cZ) (sz := H.size) (h_p0 := (ad_p0 0)) (ad_p0 := ad_p0_net) (p0_places := p0_net_places) (p0_steps := p0_net_steps) (p0_coloured := p0_net_coloured) (p0_puts := p0_net_puts) (p0_takes := p0_net_takes) hw) (cwV 2 hts gX9_keeps_X5_change rfl rfl rfl (by decide +kernel) ⟨Nat.le_of_ble_eq_true rfl, Nat.le_of_ble_eq_true rfl⟩) ⟨xPre_blind, va_recv hK hP (ci := 5) (q0 := 3) rfl rfl, xPre_at hK hPc hDc n1 n2⟩ rfl rfl hl.1 rfl (lv_room (Nat.le_of_ble_eq_true rfl)) dX9_keeps_48 ⟨Nat.zero_le _, Nat.zero_le _⟩) (fun r6 u H locs hw hP hD hS => ?_)
      try dsimp only at hw
      have hP : va_P (dC, dI) vwCl (wld_X9_keeps cI cJ cZ h_p0 ad_p0 ad_p0_hand ad_p0_net p0_goings p0_latestFault p0_hand_rowSize p0_hand_waySize p0_net_places p0_net_steps p0_net_coloured p0_hand_row p0_net_puts p0_net_takes) H := hP
      have hD : va_D A (wld_X9_keeps cI cJ cZ h_p0 ad_p0 ad_p0_hand ad_p0_net p0_goings p0_latestFault p0_hand_rowSize p0_hand_waySize p0_net_places p0_net_steps p0_net_coloured p0_hand_row p0_net_puts p0_net_takes) := hD
      refine lv_i2l hx hb dX9_keeps_51 rfl ?_
      refine lv_lmul hx hb dX9_keeps_52 ?_
      refine lv_ladd hx hb dX9_keeps_53 ?_
      refine lv_topl (fun x7 ex7 => ?_)
      have hw := hw x7 ex7
      refine lv_lstore_n (lv' := [(2, .long x7), (0, .ref h_p0), (1, .int v1), (4, .int v4)]) hx hb dX9_keeps_54 rfl hl (by decide) rfl (fun ls hl => ?_)
      obtain ⟨x8, ex8⟩ : ∃ y : Int32, y = v4 + (1 : Int32) := ⟨_, rfl⟩
      have hw := hw x8 ex8
      refine lv_iinc (v := x8) (lv' := [(4, .int x8), (2, .long x7), (0, .ref h_p0), (1, .int v1)]) hx hb dX9_keeps_55 hl (k := 3) rfl (by rw [ex8]; rfl) (by decide) rfl (fun ls hl => ?_)
      refine lv_goto (tgt := 18) hx hb dX9_keeps_58 (by decide) ?_
      exact ih _ _ hw _ _ _ hP hD hS (lv_sub hl [2, 3, 1, 0] rfl)
set_option maxHeartbeats 4000000 in
set_option maxRecDepth 100000 in
theorem c_X9_keeps_L2 {p : Program} {l : Launch} {e : Env} {s : State} {m : MethodId} {args : Array Value} {below : List Frame} {meth : Method} {c : Code} {dC : Nat → ClassId} {dI : Nat → Nat → Nat} {A : Nat → Prop} {cI cJ cZ : ClassId} {h_p0 : Nat} {ad_p0 : Nat → Nat} {ad_p0_hand : Nat → Nat} {ad_p0_net : Nat → Nat} {p0_goings : Int32} {p0_latestFault : Int32} {p0_hand_rowSize : Int32} {p0_hand_waySize : Int32} {p0_net_places : Int32} {p0_net_steps : Int32} {p0_net_coloured : Int32} {p0_hand_row : Nat → Int32} {p0_net_puts : Nat → Int32} {p0_net_takes : Nat → Int32}  {post : Int32 → Prop} {K : (Int32) → Prop} (E0 : xEnv p s m args meth c cX9_keeps (some .int) 5 RX9 wsX9_keeps (dC, dI) cI cJ cZ A) (hk : ∀ (v1 : Int32) (H : Heap) (locs : List Loc) (ls : Array Slot), K v1 → va_P (dC, dI) vwCl (wld_X9_keeps cI cJ cZ h_p0 ad_p0 ad_p0_hand ad_p0_net p0_goings p0_latestFault p0_hand_rowSize p0_hand_waySize p0_net_places p0_net_steps p0_net_coloured p0_hand_row p0_net_puts p0_net_takes) H → va_D A (wld_X9_keeps cI cJ cZ h_p0 ad_p0 ad_p0_hand ad_p0_net p0_goings p0_latestFault p0_hand_rowSize p0_hand_waySize p0_net_places p0_net_steps p0_net_coloured p0_hand_row p0_net_puts p0_net_takes) → va_S A s.heap H locs → lv_has ls 5 [] → W p l e ({ frames := 2, cells := 0, slots := 0, locals := 43 }) s m args below meth c H locs 0 0 (MQ below (q_X9_keeps dC dI cI cJ cZ h_p0 ad_p0 ad_p0_hand ad_p0_net p0_goings p0_latestFault p0_hand_rowSize p0_hand_waySize p0_net_places p0_net_steps p0_net_coloured p0_hand_row p0_net_puts p0_net_takes post A) args s 0 0 A) (F0 m 75 ls [])) : ∀ (n : Nat) (v1 : Int32), w_X9_keeps_L2 p0_hand_rowSize p0_net_places p0_net_steps p0_hand_row p0_net_puts p0_net_takes post K n v1 → ∀ (H : Heap) (locs : List Loc) (ls : Array Slot), va_P (dC, dI) vwCl (wld_X9_keeps cI cJ cZ h_p0 ad_p0 ad_p0_hand ad_p0_net p0_goings p0_latestFault p0_hand_rowSize p0_hand_waySize p0_net_places p0_net_steps p0_net_coloured p0_hand_row p0_net_puts p0_net_takes) H → va_D A (wld_X9_keeps cI cJ cZ h_p0 ad_p0 ad_p0_hand ad_p0_net p0_goings p0_latestFault p0_hand_rowSize p0_hand_waySize p0_net_places p0_net_steps p0_net_coloured p0_hand_row p0_net_puts p0_net_takes) → va_S A s.heap H locs → lv_has ls 5 [(0, .ref h_p0), (1, .int v1)] → W p l e ({ frames := 2, cells := 0, slots := 0, locals := 43 }) s m args below meth c H locs 0 0 (MQ below (q_X9_keeps dC dI cI cJ cZ h_p0 ad_p0 ad_p0_hand ad_p0_net p0_goings p0_latestFault p0_hand_rowSize p0_hand_waySize p0_net_places p0_net_steps p0_net_coloured p0_hand_row p0_net_puts p0_net_takes post A) args s 0 0 A) (F0 m 2 ls []) := by
  obtain ⟨hx, hb, hr, hml, hown, hts, hlocks, hK, hA, n1, n2⟩ := id E0
  have iX2 : ∀ w ∈ u_ws RX2 TX2 4, w ∈ wsX9_keeps := fun w h => List.mem_cons_of_mem _ (List.mem_append_right _ h)
  have iX5 : ∀ w ∈ u_ws RX5 TX5 14, w ∈ wsX9_keeps := fun w h => List.mem_cons_of_mem _ (List.mem_append_left _ (List.mem_append_right _ h))
  have iX9 : ∀ w ∈ u_ws RX9 TX9 12, w ∈ wsX9_keeps := fun w h => List.mem_cons_of_mem _ (List.mem_append_left _ (List.mem_append_left _ (List.mem_append_right _ h)))
  intro n
  induction n with
  | zero => intro v1 hw; exact hw.elim
  | succ n ih =>
    intro v1 hw H locs ls hP hD hS hl
    have hw : w_X9_keeps_L2b p0_hand_rowSize p0_net_places p0_net_steps p0_hand_row p0_net_puts p0_net_takes post K (w_X9_keeps_L2 p0_hand_rowSize p0_net_places p0_net_steps p0_hand_row p0_net_puts p0_net_takes post K n) v1 := hw
    unfold w_X9_keeps_L2b at hw
    refine lv_iload_n hx hb dX9_keeps_2 rfl (lv_at hl 1 rfl) ?_
    refine lv_aload_n hx hb dX9_keeps_3 rfl (lv_at hl 0 rfl) ?_
    refine va_get (D := (dC, dI)) (ci := 9) (v := .ref (ad_p0 0)) (C := RX9) (T := TX9) (N := 12) hx hb hts iX9 hown hK hP 0 rfl rfl 0 (by decide) (hts (.fieldLink RX9 10 "NetHouse" "net" "LNetHouse$Net;") (by decide +kernel)) (fun _ h9 => h9) rfl dX9_keeps_4 ?_
    refine va_get (D := (dC, dI)) (ci := 5) (v := .int p0_net_steps) (C := RX5) (T := TX5) (N := 14) hx hb hts iX5 hown hK hP 3 rfl rfl 12 (by decide) (hts (.fieldLink RX9 91 "NetHouse$Net" "steps" "I") (by decide +kernel)) (fun _ h9 => h9) rfl dX9_keeps_7 ?_
    refine lv_icmp_ge (tgt := 75) hx hb dX9_keeps_10 (by decide) (fun c1 => ?_) (fun c2 => ?_)
    · have hw := hw.1 c1
      exact hk _ _ _ _ hw hP hD hS (lv_sub hl [] rfl)
    · have hw := hw.2 c2
      refine lv_lconst (v := 0) hx hb dX9_keeps_13 (by decide) ?_
      refine lv_lstore_n (lv' := [(2, .long (0 : Int64)), (0, .ref h_p0), (1, .int v1)]) hx hb dX9_keeps_14 rfl hl (by decide) rfl (fun ls hl => ?_)
      refine lv_iconst (v := 0) hx hb dX9_keeps_15 (by decide) ?_
      refine lv_istore (lv' := [(4, .int (0 : Int32)), (2, .long (0 : Int64)), (0, .ref h_p0), (1, .int v1)]) hx hb dX9_keeps_16 hl (by decide) rfl (fun ls hl => ?_)
      obtain ⟨n9, hw⟩ := hw
      refine c_X9_keeps_L18 (l := l)  E0 ?_ n9 _ _ hw _ _ _ hP hD hS (lv_sub hl [2, 3, 1, 0] rfl)
      · intro v10 v11 H locs ls hw hP hD hS hl
        have hP : va_P (dC, dI) vwCl (wld_X9_keeps cI cJ cZ h_p0 ad_p0 ad_p0_hand ad_p0_net p0_goings p0_latestFault p0_hand_rowSize p0_hand_waySize p0_net_places p0_net_steps p0_net_coloured p0_hand_row p0_net_puts p0_net_takes) H := hP
        have hD : va_D A (wld_X9_keeps cI cJ cZ h_p0 ad_p0 ad_p0_hand ad_p0_net p0_goings p0_latestFault p0_hand_rowSize p0_hand_waySize p0_net_places p0_net_steps p0_net_coloured p0_hand_row p0_net_puts p0_net_takes) := hD
        refine lv_lload_n hx hb dX9_keeps_61 rfl (lv_at hl 2 rfl) ?_
        refine lv_lconst (v := 0) hx hb dX9_keeps_62 (by decide) ?_
        refine W.lcmp hx hb dX9_keeps_63 ?_
        refine lv_if_eq (tgt := 69) hx hb dX9_keeps_64 (by decide) (fun c12 => ?_) (fun c13 => ?_)
        · have hw := hw.1 c12
          obtain ⟨x14, ex14⟩ : ∃ y : Int32, y = v1 + (1 : Int32) := ⟨_, rfl⟩
          have hw := hw x14 ex14
          refine lv_iinc (v := x14) (lv' := [(1, .int x14), (0, .ref h_p0), (2, .long v10)]) hx hb dX9_keeps_69 hl (k := 1) rfl (by rw [ex14]; rfl) (by decide) rfl (fun ls hl => ?_)
          refine lv_goto (tgt := 2) hx hb dX9_keeps_72 (by decide) ?_
          exact ih _ hw _ _ _ hP hD hS (lv_sub hl [1, 0] rfl)
        · have hw := hw.2 c13
          refine lv_iconst (v := 0) hx hb dX9_keeps_67 (by decide) ?_
          exact x_iret (w1 := fun (u : Unit) => (wld_X9_keeps cI cJ cZ h_p0 ad_p0 ad_p0_hand ad_p0_net p0_goings p0_latestFault p0_hand_rowSize p0_hand_waySize p0_net_places p0_net_steps p0_net_coloured p0_hand_row p0_net_puts p0_net_takes)) hx hb hr hlocks () hw hP hD hS dX9_keeps_68
set_option maxHeartbeats 4000000 in
set_option maxRecDepth 100000 in
theorem c_X9_keeps {l : Launch} {dC : Nat → ClassId} {dI : Nat → Nat → Nat} {sz : Nat} {cI cJ cZ : ClassId} {h_p0 : Nat} {ad_p0 : Nat → Nat} {ad_p0_hand : Nat → Nat} {ad_p0_net : Nat → Nat} {p0_goings : Int32} {p0_latestFault : Int32} {p0_hand_rowSize : Int32} {p0_hand_waySize : Int32} {p0_net_places : Int32} {p0_net_steps : Int32} {p0_net_coloured : Int32} {p0_hand_row : Nat → Int32} {p0_net_puts : Nat → Int32} {p0_net_takes : Nat → Int32}  {post : Int32 → Prop} (hw : w_X9_keeps p0_hand_rowSize p0_net_places p0_net_steps p0_hand_row p0_net_puts p0_net_takes post) : Met l yX9_keeps wsX9_keeps ({ frames := 2, cells := 0, slots := 0, locals := 43 }) (va_Pc [.ref h_p0] (xPre (dC, dI) cI cJ cZ (wld_X9_keeps cI cJ cZ h_p0 ad_p0 ad_p0_hand ad_p0_net p0_goings p0_latestFault p0_hand_rowSize p0_hand_waySize p0_net_places p0_net_steps p0_net_coloured p0_hand_row p0_net_puts p0_net_takes) sz)) (q_X9_keeps dC dI cI cJ cZ h_p0 ad_p0 ad_p0_hand ad_p0_net p0_goings p0_latestFault p0_hand_rowSize p0_hand_waySize p0_net_places p0_net_steps p0_net_coloured p0_hand_row p0_net_puts p0_net_takes post (va_A (wld_X9_keeps cI cJ cZ h_p0 ad_p0 ad_p0_hand ad_p0_net p0_goings p0_latestFault p0_hand_rowSize p0_hand_waySize p0_net_places p0_net_steps p0_net_coloured p0_hand_row p0_net_puts p0_net_takes) sz)) 0 0 (va_A (wld_X9_keeps cI cJ cZ h_p0 ad_p0 ad_p0_hand ad_p0_net p0_goings p0_latestFault p0_hand_rowSize p0_hand_waySize p0_net_places p0_net_steps p0_net_coloured p0_hand_row p0_net_puts p0_net_takes) sz) := by
  refine x_met (cc := cX9_keeps) (maxL := 5) (ret := (some .int)) (own := RX9) (Qc := fun A => (q_X9_keeps dC dI cI cJ cZ h_p0 ad_p0 ad_p0_hand ad_p0_net p0_goings p0_latestFault p0_hand_rowSize p0_hand_waySize p0_net_places p0_net_steps p0_net_coloured p0_hand_row p0_net_puts p0_net_takes post A)) (by decide) rfl rfl (Nat.le_of_ble_eq_true rfl) ?_
  intro p e s m args below meth c A ls E0 hP hD hS hl
  obtain ⟨hx, hb, hr, hml, hown, hts, hlocks, hK, hA, n1, n2⟩ := id E0
  have iX2 : ∀ w ∈ u_ws RX2 TX2 4, w ∈ wsX9_keeps := fun w h => List.mem_cons_of_mem _ (List.mem_append_right _ h)
  have iX5 : ∀ w ∈ u_ws RX5 TX5 14, w ∈ wsX9_keeps := fun w h => List.mem_cons_of_mem _ (List.mem_append_left _ (List.mem_append_right _ h))
  have iX9 : ∀ w ∈ u_ws RX9 TX9 12, w ∈ wsX9_keeps := fun w h => List.mem_cons_of_mem _ (List.mem_append_left _ (List.mem_append_left _ (List.mem_append_right _ h)))
  have hS0 := hS
  have hl : lv_has ls 5 [(0, .ref h_p0)] := hl
  unfold w_X9_keeps at hw
  obtain ⟨H, hH⟩ : ∃ H, H = s.heap := ⟨_, rfl⟩
  have hS : va_S A s.heap H [] := by rw [hH]; exact hS
  have hP : va_P (dC, dI) vwCl (wld_X9_keeps cI cJ cZ h_p0 ad_p0 ad_p0_hand ad_p0_net p0_goings p0_latestFault p0_hand_rowSize p0_hand_waySize p0_net_places p0_net_steps p0_net_coloured p0_hand_row p0_net_puts p0_net_takes) H := by rw [hH]; exact hP
  suffices hG : W p l e ({ frames := 2, cells := 0, slots := 0, locals := 43 }) s m args below meth c H [] 0 0 (MQ below (q_X9_keeps dC dI cI cJ cZ h_p0 ad_p0 ad_p0_hand ad_p0_net p0_goings p0_latestFault p0_hand_rowSize p0_hand_waySize p0_net_places p0_net_steps p0_net_coloured p0_hand_row p0_net_puts p0_net_takes post A) args s 0 0 A) (F0 m 0 ls []) by rw [hH] at hG; exact hG
  clear hH
  refine lv_iconst (v := 0) hx hb dX9_keeps_0 (by decide) ?_
  refine lv_istore_n (lv' := [(1, .int (0 : Int32)), (0, .ref h_p0)]) hx hb dX9_keeps_1 rfl hl (by decide) rfl (fun ls hl => ?_)
  obtain ⟨n15, hw⟩ := hw
  refine c_X9_keeps_L2 (l := l)  E0 ?_ n15 _ hw _ _ _ hP hD hS (lv_sub hl [1, 0] rfl)
  · intro v16 H locs ls hw hP hD hS hl
    have hP : va_P (dC, dI) vwCl (wld_X9_keeps cI cJ cZ h_p0 ad_p0 ad_p0_hand ad_p0_net p0_goings p0_latestFault p0_hand_rowSize p0_hand_waySize p0_net_places p0_net_steps p0_net_coloured p0_hand_row p0_net_puts p0_net_takes) H := hP
    have hD : va_D A (wld_X9_keeps cI cJ cZ h_p0 ad_p0 ad_p0_hand ad_p0_net p0_goings p0_latestFault p0_hand_rowSize p0_hand_waySize p0_net_places p0_net_steps p0_net_coloured p0_hand_row p0_net_puts p0_net_takes) := hD
    refine lv_iconst (v := 1) hx hb dX9_keeps_75 (by decide) ?_
    exact x_iret (w1 := fun (u : Unit) => (wld_X9_keeps cI cJ cZ h_p0 ad_p0 ad_p0_hand ad_p0_net p0_goings p0_latestFault p0_hand_rowSize p0_hand_waySize p0_net_places p0_net_steps p0_net_coloured p0_hand_row p0_net_puts p0_net_takes)) hx hb hr hlocks () hw hP hD hS dX9_keeps_76
abbrev wld_X9_turns (cI cJ cZ : ClassId) (h_p0 : Nat) (ad_p0 : Nat → Nat) (ad_p0_hand : Nat → Nat) (ad_p0_net : Nat → Nat) (p0_goings : Int32) (p0_latestFault : Int32) (p0_hand_rowSize : Int32) (p0_hand_waySize : Int32) (p0_net_places : Int32) (p0_net_steps : Int32) (p0_net_coloured : Int32) (p0_hand_row : Nat → Int32) (p0_net_puts : Nat → Int32) (p0_net_takes : Nat → Int32) : va_W := [(h_p0, .inr (9, [.ref (ad_p0 0), .ref (ad_p0 1), .ref (ad_p0 2), .ref (ad_p0 3), .ref (ad_p0 4), .ref (ad_p0 5), .ref (ad_p0 6), .ref (ad_p0 7), .ref (ad_p0 8), .ref (ad_p0 9), .int p0_goings, .int p0_latestFault])), ((ad_p0 4), .inr (2, [.ref (ad_p0_hand 0), .ref (ad_p0_hand 1), .int p0_hand_rowSize, .int p0_hand_waySize])), ((ad_p0_hand 0), .inl (cI, 16, .inl p0_hand_row)), ((ad_p0 0), .inr (5, [.ref (ad_p0_net 0), .ref (ad_p0_net 1), .ref (ad_p0_net 2), .ref (ad_p0_net 3), .ref (ad_p0_net 4), .ref (ad_p0_net 5), .ref (ad_p0_net 6), .ref (ad_p0_net 7), .ref (ad_p0_net 8), .ref (ad_p0_net 9), .ref (ad_p0_net 10), .int p0_net_places, .int p0_net_steps, .int p0_net_coloured])), ((ad_p0_net 3), .inl (cI, 256, .inl p0_net_puts)), ((ad_p0_net 2), .inl (cI, 256, .inl p0_net_takes))]
abbrev q_X9_turns (dC : Nat → ClassId) (dI : Nat → Nat → Nat) (cI cJ cZ : ClassId) (h_p0 : Nat) (ad_p0 : Nat → Nat) (ad_p0_hand : Nat → Nat) (ad_p0_net : Nat → Nat) (p0_goings : Int32) (p0_latestFault : Int32) (p0_hand_rowSize : Int32) (p0_hand_waySize : Int32) (p0_net_places : Int32) (p0_net_steps : Int32) (p0_net_coloured : Int32) (p0_hand_row : Nat → Int32) (p0_net_puts : Nat → Int32) (p0_net_takes : Nat → Int32) (post : Int32 → Prop) (A : Nat → Prop) : Array Value → State → Outcome → State → Prop := va_Qi (fun r (u : Unit) => post r ) (fun (u : Unit) t => xPost (dC, dI) A (wld_X9_turns cI cJ cZ h_p0 ad_p0 ad_p0_hand ad_p0_net p0_goings p0_latestFault p0_hand_rowSize p0_hand_waySize p0_net_places p0_net_steps p0_net_coloured p0_hand_row p0_net_puts p0_net_takes) t) A
def w_X9_turns_L2b (p0_hand_rowSize : Int32) (p0_net_places : Int32) (p0_net_steps : Int32) (p0_hand_row : Nat → Int32) (p0_net_puts : Nat → Int32) (p0_net_takes : Nat → Int32) (post : Int32 → Prop) (K : (Int32) → Prop) (rec : (Int32) → Prop) (v1 : Int32) : Prop :=
    (p0_net_steps ≤ v1 →
      K v1) ∧
    (¬ p0_net_steps ≤ v1 →
      w_X2_numberFor p0_hand_rowSize p0_hand_row v1 (fun r3 =>
      (0 ≤ r3 →
        ∀ x6 : Int32, x6 = v1 + (1 : Int32) →
        rec x6) ∧
      (¬ 0 ≤ r3 →
        (post (0 : Int32)))))
def w_X9_turns_L2 (p0_hand_rowSize : Int32) (p0_net_places : Int32) (p0_net_steps : Int32) (p0_hand_row : Nat → Int32) (p0_net_puts : Nat → Int32) (p0_net_takes : Nat → Int32) (post : Int32 → Prop) (K : (Int32) → Prop) : Nat → (Int32) → Prop
  | 0, _ => False
  | n + 1, v1 => w_X9_turns_L2b p0_hand_rowSize p0_net_places p0_net_steps p0_hand_row p0_net_puts p0_net_takes post K (w_X9_turns_L2 p0_hand_rowSize p0_net_places p0_net_steps p0_hand_row p0_net_puts p0_net_takes post K n) v1
def w_X9_turns_L50b (v1 : Int32) (p0_hand_rowSize : Int32) (p0_net_places : Int32) (p0_net_steps : Int32) (p0_hand_row : Nat → Int32) (p0_net_puts : Nat → Int32) (p0_net_takes : Nat → Int32) (post : Int32 → Prop) (K : (Int64) → (Int32) → Prop) (rec : (Int64) → (Int32) → Prop) (v2 : Int64) (v4 : Int32) : Prop :=
    (p0_net_steps ≤ v4 →
      K v2 v4) ∧
    (¬ p0_net_steps ≤ v4 →
      w_X2_numberFor p0_hand_rowSize p0_hand_row v4 (fun r13 =>
      w_X5_change p0_net_puts p0_net_takes v4 v1 (fun r14 =>
      ∀ x15 : Int64, x15 = (v2 + (r13.toInt64 * r14.toInt64)) →
      ∀ x16 : Int32, x16 = v4 + (1 : Int32) →
      rec x15 x16)))
def w_X9_turns_L50 (v1 : Int32) (p0_hand_rowSize : Int32) (p0_net_places : Int32) (p0_net_steps : Int32) (p0_hand_row : Nat → Int32) (p0_net_puts : Nat → Int32) (p0_net_takes : Nat → Int32) (post : Int32 → Prop) (K : (Int64) → (Int32) → Prop) : Nat → (Int64) → (Int32) → Prop
  | 0, _, _ => False
  | n + 1, v2, v4 => w_X9_turns_L50b v1 p0_hand_rowSize p0_net_places p0_net_steps p0_hand_row p0_net_puts p0_net_takes post K (w_X9_turns_L50 v1 p0_hand_rowSize p0_net_places p0_net_steps p0_hand_row p0_net_puts p0_net_takes post K n) v2 v4
def w_X9_turns_L34b (p0_hand_rowSize : Int32) (p0_net_places : Int32) (p0_net_steps : Int32) (p0_hand_row : Nat → Int32) (p0_net_puts : Nat → Int32) (p0_net_takes : Nat → Int32) (post : Int32 → Prop) (K : (Int32) → Prop) (rec : (Int32) → Prop) (v1 : Int32) : Prop :=
    (p0_net_places ≤ v1 →
      K v1) ∧
    (¬ p0_net_places ≤ v1 →
      ∃ n : Nat, w_X9_turns_L50 v1 p0_hand_rowSize p0_net_places p0_net_steps p0_hand_row p0_net_puts p0_net_takes post (fun v18 v19 =>
          ((lg_cmp v18 (0 : Int64)) = 0 →
            ∀ x22 : Int32, x22 = v1 + (1 : Int32) →
            rec x22) ∧
          (¬ (lg_cmp v18 (0 : Int64)) = 0 →
            (post (0 : Int32)))) n (0 : Int64) (0 : Int32))
def w_X9_turns_L34 (p0_hand_rowSize : Int32) (p0_net_places : Int32) (p0_net_steps : Int32) (p0_hand_row : Nat → Int32) (p0_net_puts : Nat → Int32) (p0_net_takes : Nat → Int32) (post : Int32 → Prop) (K : (Int32) → Prop) : Nat → (Int32) → Prop
  | 0, _ => False
  | n + 1, v1 => w_X9_turns_L34b p0_hand_rowSize p0_net_places p0_net_steps p0_hand_row p0_net_puts p0_net_takes post K (w_X9_turns_L34 p0_hand_rowSize p0_net_places p0_net_steps p0_hand_row p0_net_puts p0_net_takes post K n) v1
def w_X9_turns (p0_hand_rowSize : Int32) (p0_net_places : Int32) (p0_net_steps : Int32) (p0_hand_row : Nat → Int32) (p0_net_puts : Nat → Int32) (p0_net_takes : Nat → Int32) (post : Int32 → Prop) : Prop :=
  ∃ n : Nat, w_X9_turns_L2 p0_hand_rowSize p0_net_places p0_net_steps p0_hand_row p0_net_puts p0_net_takes post (fun v8 =>
      ∃ n : Nat, w_X9_turns_L34 p0_hand_rowSize p0_net_places p0_net_steps p0_hand_row p0_net_puts p0_net_takes post (fun v24 =>
          (post (1 : Int32))) n (0 : Int32)) n (0 : Int32)
set_option maxHeartbeats 4000000 in
set_option maxRecDepth 100000 in
theorem c_X9_turns_L2 {p : Program} {l : Launch} {e : Env} {s : State} {m : MethodId} {args : Array Value} {below : List Frame} {meth : Method} {c : Code} {dC : Nat → ClassId} {dI : Nat → Nat → Nat} {A : Nat → Prop} {cI cJ cZ : ClassId} {h_p0 : Nat} {ad_p0 : Nat → Nat} {ad_p0_hand : Nat → Nat} {ad_p0_net : Nat → Nat} {p0_goings : Int32} {p0_latestFault : Int32} {p0_hand_rowSize : Int32} {p0_hand_waySize : Int32} {p0_net_places : Int32} {p0_net_steps : Int32} {p0_net_coloured : Int32} {p0_hand_row : Nat → Int32} {p0_net_puts : Nat → Int32} {p0_net_takes : Nat → Int32}  {post : Int32 → Prop} {K : (Int32) → Prop} (E0 : xEnv p s m args meth c cX9_turns (some .int) 5 RX9 wsX9_turns (dC, dI) cI cJ cZ A) (hk : ∀ (v1 : Int32) (H : Heap) (locs : List Loc) (ls : Array Slot), K v1 → va_P (dC, dI) vwCl (wld_X9_turns cI cJ cZ h_p0 ad_p0 ad_p0_hand ad_p0_net p0_goings p0_latestFault p0_hand_rowSize p0_hand_waySize p0_net_places p0_net_steps p0_net_coloured p0_hand_row p0_net_puts p0_net_takes) H → va_D A (wld_X9_turns cI cJ cZ h_p0 ad_p0 ad_p0_hand ad_p0_net p0_goings p0_latestFault p0_hand_rowSize p0_hand_waySize p0_net_places p0_net_steps p0_net_coloured p0_hand_row p0_net_puts p0_net_takes) → va_S A s.heap H locs → lv_has ls 5 [(0, .ref h_p0)] → W p l e ({ frames := 2, cells := 0, slots := 0, locals := 43 }) s m args below meth c H locs 0 0 (MQ below (q_X9_turns dC dI cI cJ cZ h_p0 ad_p0 ad_p0_hand ad_p0_net p0_goings p0_latestFault p0_hand_rowSize p0_hand_waySize p0_net_places p0_net_steps p0_net_coloured p0_hand_row p0_net_puts p0_net_takes post A) args s 0 0 A) (F0 m 32 ls [])) : ∀ (n : Nat) (v1 : Int32), w_X9_turns_L2 p0_hand_rowSize p0_net_places p0_net_steps p0_hand_row p0_net_puts p0_net_takes post K n v1 → ∀ (H : Heap) (locs : List Loc) (ls : Array Slot), va_P (dC, dI) vwCl (wld_X9_turns cI cJ cZ h_p0 ad_p0 ad_p0_hand ad_p0_net p0_goings p0_latestFault p0_hand_rowSize p0_hand_waySize p0_net_places p0_net_steps p0_net_coloured p0_hand_row p0_net_puts p0_net_takes) H → va_D A (wld_X9_turns cI cJ cZ h_p0 ad_p0 ad_p0_hand ad_p0_net p0_goings p0_latestFault p0_hand_rowSize p0_hand_waySize p0_net_places p0_net_steps p0_net_coloured p0_hand_row p0_net_puts p0_net_takes) → va_S A s.heap H locs → lv_has ls 5 [(0, .ref h_p0), (1, .int v1)] → W p l e ({ frames := 2, cells := 0, slots := 0, locals := 43 }) s m args below meth c H locs 0 0 (MQ below (q_X9_turns dC dI cI cJ cZ h_p0 ad_p0 ad_p0_hand ad_p0_net p0_goings p0_latestFault p0_hand_rowSize p0_hand_waySize p0_net_places p0_net_steps p0_net_coloured p0_hand_row p0_net_puts p0_net_takes post A) args s 0 0 A) (F0 m 2 ls []) := by
  obtain ⟨hx, hb, hr, hml, hown, hts, hlocks, hK, hA, n1, n2⟩ := id E0
  have iX2 : ∀ w ∈ u_ws RX2 TX2 4, w ∈ wsX9_turns := fun w h => List.mem_cons_of_mem _ (List.mem_append_right _ h)
  have iX5 : ∀ w ∈ u_ws RX5 TX5 14, w ∈ wsX9_turns := fun w h => List.mem_cons_of_mem _ (List.mem_append_left _ (List.mem_append_right _ h))
  have iX9 : ∀ w ∈ u_ws RX9 TX9 12, w ∈ wsX9_turns := fun w h => List.mem_cons_of_mem _ (List.mem_append_left _ (List.mem_append_left _ (List.mem_append_right _ h)))
  intro n
  induction n with
  | zero => intro v1 hw; exact hw.elim
  | succ n ih =>
    intro v1 hw H locs ls hP hD hS hl
    have hw : w_X9_turns_L2b p0_hand_rowSize p0_net_places p0_net_steps p0_hand_row p0_net_puts p0_net_takes post K (w_X9_turns_L2 p0_hand_rowSize p0_net_places p0_net_steps p0_hand_row p0_net_puts p0_net_takes post K n) v1 := hw
    unfold w_X9_turns_L2b at hw
    refine lv_iload_n hx hb dX9_turns_2 rfl (lv_at hl 1 rfl) ?_
    refine lv_aload_n hx hb dX9_turns_3 rfl (lv_at hl 0 rfl) ?_
    refine va_get (D := (dC, dI)) (ci := 9) (v := .ref (ad_p0 0)) (C := RX9) (T := TX9) (N := 12) hx hb hts iX9 hown hK hP 0 rfl rfl 0 (by decide) (hts (.fieldLink RX9 10 "NetHouse" "net" "LNetHouse$Net;") (by decide +kernel)) (fun _ h9 => h9) rfl dX9_turns_4 ?_
    refine va_get (D := (dC, dI)) (ci := 5) (v := .int p0_net_steps) (C := RX5) (T := TX5) (N := 14) hx hb hts iX5 hown hK hP 3 rfl rfl 12 (by decide) (hts (.fieldLink RX9 91 "NetHouse$Net" "steps" "I") (by decide +kernel)) (fun _ h9 => h9) rfl dX9_turns_7 ?_
    refine lv_icmp_ge (tgt := 32) hx hb dX9_turns_10 (by decide) (fun c1 => ?_) (fun c2 => ?_)
    · have hw := hw.1 c1
      exact hk _ _ _ _ hw hP hD hS (lv_sub hl [0] rfl)
    · have hw := hw.2 c2
      refine lv_aload_n hx hb dX9_turns_13 rfl (lv_at hl 0 rfl) ?_
      refine va_get (D := (dC, dI)) (ci := 9) (v := .ref (ad_p0 4)) (C := RX9) (T := TX9) (N := 12) hx hb hts iX9 hown hK hP 0 rfl rfl 4 (by decide) (hts (.fieldLink RX9 36 "NetHouse" "hand" "LNetHouse$Hand;") (by decide +kernel)) (fun _ h9 => h9) rfl dX9_turns_14 ?_
      refine lv_iload_n hx hb dX9_turns_17 rfl (lv_at hl 1 rfl) ?_
      obtain ⟨hPc, hDc⟩ := x_sub (wc := (wld_X2_numberFor cI cJ cZ (ad_p0 4) ad_p0_hand p0_hand_rowSize p0_hand_waySize p0_hand_row)) hP hD [1, 2] (n := 6) rfl rfl (by decide +kernel)
      refine x_calli (ws' := fun (u : Unit) => (wld_X9_turns cI cJ cZ h_p0 ad_p0 ad_p0_hand ad_p0_net p0_goings p0_latestFault p0_hand_rowSize p0_hand_waySize p0_net_places p0_net_steps p0_net_coloured p0_hand_row p0_net_puts p0_net_takes)) hP hD hS hA [1, 2] [0, 3, 4, 5] [0, 4, 5, 1, 2, 3] (n := 6) (k := 2) rfl (fun _ => rfl) rfl (by decide +kernel) (fun _ => rfl) (va_runV (As := [.int v1]) (rest := []) ⟨hx, hb, hml, hown, hts⟩ (c_X2_numberFor (l := l) (dC := dC) (dI := dI) (cI := cI) (cJ := cJ) (cZ := cZ) (sz := H.size) (h_p0 := (ad_p0 4)) (ad_p0 := ad_p0_hand) (p0_rowSize := p0_hand_rowSize) (p0_waySize := p0_hand_waySize) (p0_row := p0_hand_row) hw) (cwV 1 hts gX9_turns_X2_numberFor rfl rfl rfl (by decide +kernel) ⟨Nat.le_of_ble_eq_true rfl, Nat.le_of_ble_eq_true rfl⟩) ⟨xPre_blind, va_recv hK hP (ci := 2) (q0 := 1) rfl rfl, xPre_at hK hPc hDc n1 n2⟩ rfl rfl hl.1 rfl (lv_room (Nat.le_of_ble_eq_true rfl)) dX9_turns_18 ⟨Nat.zero_le _, Nat.zero_le _⟩) (fun r3 u H locs hw hP hD hS => ?_)
      try dsimp only at hw
      have hP : va_P (dC, dI) vwCl (wld_X9_turns cI cJ cZ h_p0 ad_p0 ad_p0_hand ad_p0_net p0_goings p0_latestFault p0_hand_rowSize p0_hand_waySize p0_net_places p0_net_steps p0_net_coloured p0_hand_row p0_net_puts p0_net_takes) H := hP
      have hD : va_D A (wld_X9_turns cI cJ cZ h_p0 ad_p0 ad_p0_hand ad_p0_net p0_goings p0_latestFault p0_hand_rowSize p0_hand_waySize p0_net_places p0_net_steps p0_net_coloured p0_hand_row p0_net_puts p0_net_takes) := hD
      refine lv_if_ge (tgt := 26) hx hb dX9_turns_21 (by decide) (fun c4 => ?_) (fun c5 => ?_)
      · have hw := hw.1 c4
        obtain ⟨x6, ex6⟩ : ∃ y : Int32, y = v1 + (1 : Int32) := ⟨_, rfl⟩
        have hw := hw x6 ex6
        refine lv_iinc (v := x6) (lv' := [(1, .int x6), (0, .ref h_p0)]) hx hb dX9_turns_26 hl (k := 1) rfl (by rw [ex6]; rfl) (by decide) rfl (fun ls hl => ?_)
        refine lv_goto (tgt := 2) hx hb dX9_turns_29 (by decide) ?_
        exact ih _ hw _ _ _ hP hD hS (lv_sub hl [1, 0] rfl)
      · have hw := hw.2 c5
        refine lv_iconst (v := 0) hx hb dX9_turns_24 (by decide) ?_
        exact x_iret (w1 := fun (u : Unit) => (wld_X9_turns cI cJ cZ h_p0 ad_p0 ad_p0_hand ad_p0_net p0_goings p0_latestFault p0_hand_rowSize p0_hand_waySize p0_net_places p0_net_steps p0_net_coloured p0_hand_row p0_net_puts p0_net_takes)) hx hb hr hlocks () hw hP hD hS dX9_turns_25
set_option maxHeartbeats 4000000 in
set_option maxRecDepth 100000 in
theorem c_X9_turns_L50 {p : Program} {l : Launch} {e : Env} {s : State} {m : MethodId} {args : Array Value} {below : List Frame} {meth : Method} {c : Code} {dC : Nat → ClassId} {dI : Nat → Nat → Nat} {A : Nat → Prop} {cI cJ cZ : ClassId} {h_p0 : Nat} {ad_p0 : Nat → Nat} {ad_p0_hand : Nat → Nat} {ad_p0_net : Nat → Nat} {p0_goings : Int32} {p0_latestFault : Int32} {p0_hand_rowSize : Int32} {p0_hand_waySize : Int32} {p0_net_places : Int32} {p0_net_steps : Int32} {p0_net_coloured : Int32} {p0_hand_row : Nat → Int32} {p0_net_puts : Nat → Int32} {p0_net_takes : Nat → Int32} {v1 : Int32}  {post : Int32 → Prop} {K : (Int64) → (Int32) → Prop} (E0 : xEnv p s m args meth c cX9_turns (some .int) 5 RX9 wsX9_turns (dC, dI) cI cJ cZ A) (hk : ∀ (v2 : Int64) (v4 : Int32) (H : Heap) (locs : List Loc) (ls : Array Slot), K v2 v4 → va_P (dC, dI) vwCl (wld_X9_turns cI cJ cZ h_p0 ad_p0 ad_p0_hand ad_p0_net p0_goings p0_latestFault p0_hand_rowSize p0_hand_waySize p0_net_places p0_net_steps p0_net_coloured p0_hand_row p0_net_puts p0_net_takes) H → va_D A (wld_X9_turns cI cJ cZ h_p0 ad_p0 ad_p0_hand ad_p0_net p0_goings p0_latestFault p0_hand_rowSize p0_hand_waySize p0_net_places p0_net_steps p0_net_coloured p0_hand_row p0_net_puts p0_net_takes) → va_S A s.heap H locs → lv_has ls 5 [(0, .ref h_p0), (1, .int v1), (2, .long v2)] → W p l e ({ frames := 2, cells := 0, slots := 0, locals := 43 }) s m args below meth c H locs 0 0 (MQ below (q_X9_turns dC dI cI cJ cZ h_p0 ad_p0 ad_p0_hand ad_p0_net p0_goings p0_latestFault p0_hand_rowSize p0_hand_waySize p0_net_places p0_net_steps p0_net_coloured p0_hand_row p0_net_puts p0_net_takes post A) args s 0 0 A) (F0 m 93 ls [])) : ∀ (n : Nat) (v2 : Int64) (v4 : Int32), w_X9_turns_L50 v1 p0_hand_rowSize p0_net_places p0_net_steps p0_hand_row p0_net_puts p0_net_takes post K n v2 v4 → ∀ (H : Heap) (locs : List Loc) (ls : Array Slot), va_P (dC, dI) vwCl (wld_X9_turns cI cJ cZ h_p0 ad_p0 ad_p0_hand ad_p0_net p0_goings p0_latestFault p0_hand_rowSize p0_hand_waySize p0_net_places p0_net_steps p0_net_coloured p0_hand_row p0_net_puts p0_net_takes) H → va_D A (wld_X9_turns cI cJ cZ h_p0 ad_p0 ad_p0_hand ad_p0_net p0_goings p0_latestFault p0_hand_rowSize p0_hand_waySize p0_net_places p0_net_steps p0_net_coloured p0_hand_row p0_net_puts p0_net_takes) → va_S A s.heap H locs → lv_has ls 5 [(0, .ref h_p0), (1, .int v1), (2, .long v2), (4, .int v4)] → W p l e ({ frames := 2, cells := 0, slots := 0, locals := 43 }) s m args below meth c H locs 0 0 (MQ below (q_X9_turns dC dI cI cJ cZ h_p0 ad_p0 ad_p0_hand ad_p0_net p0_goings p0_latestFault p0_hand_rowSize p0_hand_waySize p0_net_places p0_net_steps p0_net_coloured p0_hand_row p0_net_puts p0_net_takes post A) args s 0 0 A) (F0 m 50 ls []) := by
  obtain ⟨hx, hb, hr, hml, hown, hts, hlocks, hK, hA, n1, n2⟩ := id E0
  have iX2 : ∀ w ∈ u_ws RX2 TX2 4, w ∈ wsX9_turns := fun w h => List.mem_cons_of_mem _ (List.mem_append_right _ h)
  have iX5 : ∀ w ∈ u_ws RX5 TX5 14, w ∈ wsX9_turns := fun w h => List.mem_cons_of_mem _ (List.mem_append_left _ (List.mem_append_right _ h))
  have iX9 : ∀ w ∈ u_ws RX9 TX9 12, w ∈ wsX9_turns := fun w h => List.mem_cons_of_mem _ (List.mem_append_left _ (List.mem_append_left _ (List.mem_append_right _ h)))
  intro n
  induction n with
  | zero => intro v2 v4 hw; exact hw.elim
  | succ n ih =>
    intro v2 v4 hw H locs ls hP hD hS hl
    have hw : w_X9_turns_L50b v1 p0_hand_rowSize p0_net_places p0_net_steps p0_hand_row p0_net_puts p0_net_takes post K (w_X9_turns_L50 v1 p0_hand_rowSize p0_net_places p0_net_steps p0_hand_row p0_net_puts p0_net_takes post K n) v2 v4 := hw
    unfold w_X9_turns_L50b at hw
    refine lv_iload hx hb dX9_turns_50 (lv_at hl 3 rfl) ?_
    refine lv_aload_n hx hb dX9_turns_52 rfl (lv_at hl 0 rfl) ?_
    refine va_get (D := (dC, dI)) (ci := 9) (v := .ref (ad_p0 0)) (C := RX9) (T := TX9) (N := 12) hx hb hts iX9 hown hK hP 0 rfl rfl 0 (by decide) (hts (.fieldLink RX9 10 "NetHouse" "net" "LNetHouse$Net;") (by decide +kernel)) (fun _ h9 => h9) rfl dX9_turns_53 ?_
    refine va_get (D := (dC, dI)) (ci := 5) (v := .int p0_net_steps) (C := RX5) (T := TX5) (N := 14) hx hb hts iX5 hown hK hP 3 rfl rfl 12 (by decide) (hts (.fieldLink RX9 91 "NetHouse$Net" "steps" "I") (by decide +kernel)) (fun _ h9 => h9) rfl dX9_turns_56 ?_
    refine lv_icmp_ge (tgt := 93) hx hb dX9_turns_59 (by decide) (fun c11 => ?_) (fun c12 => ?_)
    · have hw := hw.1 c11
      exact hk _ _ _ _ _ hw hP hD hS (lv_sub hl [0, 1, 2] rfl)
    · have hw := hw.2 c12
      refine lv_lload_n hx hb dX9_turns_62 rfl (lv_at hl 2 rfl) ?_
      refine lv_aload_n hx hb dX9_turns_63 rfl (lv_at hl 0 rfl) ?_
      refine va_get (D := (dC, dI)) (ci := 9) (v := .ref (ad_p0 4)) (C := RX9) (T := TX9) (N := 12) hx hb hts iX9 hown hK hP 0 rfl rfl 4 (by decide) (hts (.fieldLink RX9 36 "NetHouse" "hand" "LNetHouse$Hand;") (by decide +kernel)) (fun _ h9 => h9) rfl dX9_turns_64 ?_
      refine lv_iload hx hb dX9_turns_67 (lv_at hl 3 rfl) ?_
      obtain ⟨hPc, hDc⟩ := x_sub (wc := (wld_X2_numberFor cI cJ cZ (ad_p0 4) ad_p0_hand p0_hand_rowSize p0_hand_waySize p0_hand_row)) hP hD [1, 2] (n := 6) rfl rfl (by decide +kernel)
      refine x_calli (ws' := fun (u : Unit) => (wld_X9_turns cI cJ cZ h_p0 ad_p0 ad_p0_hand ad_p0_net p0_goings p0_latestFault p0_hand_rowSize p0_hand_waySize p0_net_places p0_net_steps p0_net_coloured p0_hand_row p0_net_puts p0_net_takes)) hP hD hS hA [1, 2] [0, 3, 4, 5] [0, 4, 5, 1, 2, 3] (n := 6) (k := 2) rfl (fun _ => rfl) rfl (by decide +kernel) (fun _ => rfl) (va_runV (As := [.int v4]) (rest := [.long v2]) ⟨hx, hb, hml, hown, hts⟩ (c_X2_numberFor (l := l) (dC := dC) (dI := dI) (cI := cI) (cJ := cJ) (cZ := cZ) (sz := H.size) (h_p0 := (ad_p0 4)) (ad_p0 := ad_p0_hand) (p0_rowSize := p0_hand_rowSize) (p0_waySize := p0_hand_waySize) (p0_row := p0_hand_row) hw) (cwV 1 hts gX9_turns_X2_numberFor rfl rfl rfl (by decide +kernel) ⟨Nat.le_of_ble_eq_true rfl, Nat.le_of_ble_eq_true rfl⟩) ⟨xPre_blind, va_recv hK hP (ci := 2) (q0 := 1) rfl rfl, xPre_at hK hPc hDc n1 n2⟩ rfl rfl hl.1 rfl (lv_room (Nat.le_of_ble_eq_true rfl)) dX9_turns_69 ⟨Nat.zero_le _, Nat.zero_le _⟩) (fun r13 u H locs hw hP hD hS => ?_)
      try dsimp only at hw
      have hP : va_P (dC, dI) vwCl (wld_X9_turns cI cJ cZ h_p0 ad_p0 ad_p0_hand ad_p0_net p0_goings p0_latestFault p0_hand_rowSize p0_hand_waySize p0_net_places p0_net_steps p0_net_coloured p0_hand_row p0_net_puts p0_net_takes) H := hP
      have hD : va_D A (wld_X9_turns cI cJ cZ h_p0 ad_p0 ad_p0_hand ad_p0_net p0_goings p0_latestFault p0_hand_rowSize p0_hand_waySize p0_net_places p0_net_steps p0_net_coloured p0_hand_row p0_net_puts p0_net_takes) := hD
      refine lv_i2l hx hb dX9_turns_72 rfl ?_
      refine lv_aload_n hx hb dX9_turns_73 rfl (lv_at hl 0 rfl) ?_
      refine va_get (D := (dC, dI)) (ci := 9) (v := .ref (ad_p0 0)) (C := RX9) (T := TX9) (N := 12) hx hb hts iX9 hown hK hP 0 rfl rfl 0 (by decide) (hts (.fieldLink RX9 10 "NetHouse" "net" "LNetHouse$Net;") (by decide +kernel)) (fun _ h9 => h9) rfl dX9_turns_74 ?_
      refine lv_iload hx hb dX9_turns_77 (lv_at hl 3 rfl) ?_
      refine lv_iload_n hx hb dX9_turns_79 rfl (lv_at hl 1 rfl) ?_
      obtain ⟨hPc, hDc⟩ := x_sub (wc := (wld_X5_change cI cJ cZ (ad_p0 0) ad_p0_net p0_net_places p0_net_steps p0_net_coloured p0_net_puts p0_net_takes)) hP hD [3, 4, 5] (n := 6) rfl rfl (by decide +kernel)
      refine x_calli (ws' := fun (u : Unit) => (wld_X9_turns cI cJ cZ h_p0 ad_p0 ad_p0_hand ad_p0_net p0_goings p0_latestFault p0_hand_rowSize p0_hand_waySize p0_net_places p0_net_steps p0_net_coloured p0_hand_row p0_net_puts p0_net_takes)) hP hD hS hA [3, 4, 5] [0, 1, 2] [0, 1, 2, 3, 4, 5] (n := 6) (k := 3) rfl (fun _ => rfl) rfl (by decide +kernel) (fun _ => rfl) (va_runV (As := [.int v4, .int v1]) (rest := [.long r13.toInt64, .long v2]) ⟨hx, hb, hml, hown, hts⟩ (c_X5_change (l := l) (dC := dC) (dI := dI) (cI := cI) (cJ := cJ) (cZ := cZ) (sz := H.size) (h_p0 := (ad_p0 0)) (ad_p0 := ad_p0_net) (p0_places := p0_net_places) (p0_steps := p0_net_steps) (p0_coloured := p0_net_coloured) (p0_puts := p0_net_puts) (p0_takes := p0_net_takes) hw) (cwV 2 hts gX9_turns_X5_change rfl rfl rfl (by decide +kernel) ⟨Nat.le_of_ble_eq_true rfl, Nat.le_of_ble_eq_true rfl⟩) ⟨xPre_blind, va_recv hK hP (ci := 5) (q0 := 3) rfl rfl, xPre_at hK hPc hDc n1 n2⟩ rfl rfl hl.1 rfl (lv_room (Nat.le_of_ble_eq_true rfl)) dX9_turns_80 ⟨Nat.zero_le _, Nat.zero_le _⟩) (fun r14 u H locs hw hP hD hS => ?_)
      try dsimp only at hw
      have hP : va_P (dC, dI) vwCl (wld_X9_turns cI cJ cZ h_p0 ad_p0 ad_p0_hand ad_p0_net p0_goings p0_latestFault p0_hand_rowSize p0_hand_waySize p0_net_places p0_net_steps p0_net_coloured p0_hand_row p0_net_puts p0_net_takes) H := hP
      have hD : va_D A (wld_X9_turns cI cJ cZ h_p0 ad_p0 ad_p0_hand ad_p0_net p0_goings p0_latestFault p0_hand_rowSize p0_hand_waySize p0_net_places p0_net_steps p0_net_coloured p0_hand_row p0_net_puts p0_net_takes) := hD
      refine lv_i2l hx hb dX9_turns_83 rfl ?_
      refine lv_lmul hx hb dX9_turns_84 ?_
      refine lv_ladd hx hb dX9_turns_85 ?_
      refine lv_topl (fun x15 ex15 => ?_)
      have hw := hw x15 ex15
      refine lv_lstore_n (lv' := [(2, .long x15), (0, .ref h_p0), (1, .int v1), (4, .int v4)]) hx hb dX9_turns_86 rfl hl (by decide) rfl (fun ls hl => ?_)
      obtain ⟨x16, ex16⟩ : ∃ y : Int32, y = v4 + (1 : Int32) := ⟨_, rfl⟩
      have hw := hw x16 ex16
      refine lv_iinc (v := x16) (lv' := [(4, .int x16), (2, .long x15), (0, .ref h_p0), (1, .int v1)]) hx hb dX9_turns_87 hl (k := 3) rfl (by rw [ex16]; rfl) (by decide) rfl (fun ls hl => ?_)
      refine lv_goto (tgt := 50) hx hb dX9_turns_90 (by decide) ?_
      exact ih _ _ hw _ _ _ hP hD hS (lv_sub hl [2, 3, 1, 0] rfl)
set_option maxHeartbeats 4000000 in
set_option maxRecDepth 100000 in
theorem c_X9_turns_L34 {p : Program} {l : Launch} {e : Env} {s : State} {m : MethodId} {args : Array Value} {below : List Frame} {meth : Method} {c : Code} {dC : Nat → ClassId} {dI : Nat → Nat → Nat} {A : Nat → Prop} {cI cJ cZ : ClassId} {h_p0 : Nat} {ad_p0 : Nat → Nat} {ad_p0_hand : Nat → Nat} {ad_p0_net : Nat → Nat} {p0_goings : Int32} {p0_latestFault : Int32} {p0_hand_rowSize : Int32} {p0_hand_waySize : Int32} {p0_net_places : Int32} {p0_net_steps : Int32} {p0_net_coloured : Int32} {p0_hand_row : Nat → Int32} {p0_net_puts : Nat → Int32} {p0_net_takes : Nat → Int32}  {post : Int32 → Prop} {K : (Int32) → Prop} (E0 : xEnv p s m args meth c cX9_turns (some .int) 5 RX9 wsX9_turns (dC, dI) cI cJ cZ A) (hk : ∀ (v1 : Int32) (H : Heap) (locs : List Loc) (ls : Array Slot), K v1 → va_P (dC, dI) vwCl (wld_X9_turns cI cJ cZ h_p0 ad_p0 ad_p0_hand ad_p0_net p0_goings p0_latestFault p0_hand_rowSize p0_hand_waySize p0_net_places p0_net_steps p0_net_coloured p0_hand_row p0_net_puts p0_net_takes) H → va_D A (wld_X9_turns cI cJ cZ h_p0 ad_p0 ad_p0_hand ad_p0_net p0_goings p0_latestFault p0_hand_rowSize p0_hand_waySize p0_net_places p0_net_steps p0_net_coloured p0_hand_row p0_net_puts p0_net_takes) → va_S A s.heap H locs → lv_has ls 5 [] → W p l e ({ frames := 2, cells := 0, slots := 0, locals := 43 }) s m args below meth c H locs 0 0 (MQ below (q_X9_turns dC dI cI cJ cZ h_p0 ad_p0 ad_p0_hand ad_p0_net p0_goings p0_latestFault p0_hand_rowSize p0_hand_waySize p0_net_places p0_net_steps p0_net_coloured p0_hand_row p0_net_puts p0_net_takes post A) args s 0 0 A) (F0 m 107 ls [])) : ∀ (n : Nat) (v1 : Int32), w_X9_turns_L34 p0_hand_rowSize p0_net_places p0_net_steps p0_hand_row p0_net_puts p0_net_takes post K n v1 → ∀ (H : Heap) (locs : List Loc) (ls : Array Slot), va_P (dC, dI) vwCl (wld_X9_turns cI cJ cZ h_p0 ad_p0 ad_p0_hand ad_p0_net p0_goings p0_latestFault p0_hand_rowSize p0_hand_waySize p0_net_places p0_net_steps p0_net_coloured p0_hand_row p0_net_puts p0_net_takes) H → va_D A (wld_X9_turns cI cJ cZ h_p0 ad_p0 ad_p0_hand ad_p0_net p0_goings p0_latestFault p0_hand_rowSize p0_hand_waySize p0_net_places p0_net_steps p0_net_coloured p0_hand_row p0_net_puts p0_net_takes) → va_S A s.heap H locs → lv_has ls 5 [(0, .ref h_p0), (1, .int v1)] → W p l e ({ frames := 2, cells := 0, slots := 0, locals := 43 }) s m args below meth c H locs 0 0 (MQ below (q_X9_turns dC dI cI cJ cZ h_p0 ad_p0 ad_p0_hand ad_p0_net p0_goings p0_latestFault p0_hand_rowSize p0_hand_waySize p0_net_places p0_net_steps p0_net_coloured p0_hand_row p0_net_puts p0_net_takes post A) args s 0 0 A) (F0 m 34 ls []) := by
  obtain ⟨hx, hb, hr, hml, hown, hts, hlocks, hK, hA, n1, n2⟩ := id E0
  have iX2 : ∀ w ∈ u_ws RX2 TX2 4, w ∈ wsX9_turns := fun w h => List.mem_cons_of_mem _ (List.mem_append_right _ h)
  have iX5 : ∀ w ∈ u_ws RX5 TX5 14, w ∈ wsX9_turns := fun w h => List.mem_cons_of_mem _ (List.mem_append_left _ (List.mem_append_right _ h))
  have iX9 : ∀ w ∈ u_ws RX9 TX9 12, w ∈ wsX9_turns := fun w h => List.mem_cons_of_mem _ (List.mem_append_left _ (List.mem_append_left _ (List.mem_append_right _ h)))
  intro n
  induction n with
  | zero => intro v1 hw; exact hw.elim
  | succ n ih =>
    intro v1 hw H locs ls hP hD hS hl
    have hw : w_X9_turns_L34b p0_hand_rowSize p0_net_places p0_net_steps p0_hand_row p0_net_puts p0_net_takes post K (w_X9_turns_L34 p0_hand_rowSize p0_net_places p0_net_steps p0_hand_row p0_net_puts p0_net_takes post K n) v1 := hw
    unfold w_X9_turns_L34b at hw
    refine lv_iload_n hx hb dX9_turns_34 rfl (lv_at hl 1 rfl) ?_
    refine lv_aload_n hx hb dX9_turns_35 rfl (lv_at hl 0 rfl) ?_
    refine va_get (D := (dC, dI)) (ci := 9) (v := .ref (ad_p0 0)) (C := RX9) (T := TX9) (N := 12) hx hb hts iX9 hown hK hP 0 rfl rfl 0 (by decide) (hts (.fieldLink RX9 10 "NetHouse" "net" "LNetHouse$Net;") (by decide +kernel)) (fun _ h9 => h9) rfl dX9_turns_36 ?_
    refine va_get (D := (dC, dI)) (ci := 5) (v := .int p0_net_places) (C := RX5) (T := TX5) (N := 14) hx hb hts iX5 hown hK hP 3 rfl rfl 11 (by decide) (hts (.fieldLink RX9 80 "NetHouse$Net" "places" "I") (by decide +kernel)) (fun _ h9 => h9) rfl dX9_turns_39 ?_
    refine lv_icmp_ge (tgt := 107) hx hb dX9_turns_42 (by decide) (fun c9 => ?_) (fun c10 => ?_)
    · have hw := hw.1 c9
      exact hk _ _ _ _ hw hP hD hS (lv_sub hl [] rfl)
    · have hw := hw.2 c10
      refine lv_lconst (v := 0) hx hb dX9_turns_45 (by decide) ?_
      refine lv_lstore_n (lv' := [(2, .long (0 : Int64)), (0, .ref h_p0), (1, .int v1)]) hx hb dX9_turns_46 rfl hl (by decide) rfl (fun ls hl => ?_)
      refine lv_iconst (v := 0) hx hb dX9_turns_47 (by decide) ?_
      refine lv_istore (lv' := [(4, .int (0 : Int32)), (2, .long (0 : Int64)), (0, .ref h_p0), (1, .int v1)]) hx hb dX9_turns_48 hl (by decide) rfl (fun ls hl => ?_)
      obtain ⟨n17, hw⟩ := hw
      refine c_X9_turns_L50 (l := l)  E0 ?_ n17 _ _ hw _ _ _ hP hD hS (lv_sub hl [2, 3, 1, 0] rfl)
      · intro v18 v19 H locs ls hw hP hD hS hl
        have hP : va_P (dC, dI) vwCl (wld_X9_turns cI cJ cZ h_p0 ad_p0 ad_p0_hand ad_p0_net p0_goings p0_latestFault p0_hand_rowSize p0_hand_waySize p0_net_places p0_net_steps p0_net_coloured p0_hand_row p0_net_puts p0_net_takes) H := hP
        have hD : va_D A (wld_X9_turns cI cJ cZ h_p0 ad_p0 ad_p0_hand ad_p0_net p0_goings p0_latestFault p0_hand_rowSize p0_hand_waySize p0_net_places p0_net_steps p0_net_coloured p0_hand_row p0_net_puts p0_net_takes) := hD
        refine lv_lload_n hx hb dX9_turns_93 rfl (lv_at hl 2 rfl) ?_
        refine lv_lconst (v := 0) hx hb dX9_turns_94 (by decide) ?_
        refine W.lcmp hx hb dX9_turns_95 ?_
        refine lv_if_eq (tgt := 101) hx hb dX9_turns_96 (by decide) (fun c20 => ?_) (fun c21 => ?_)
        · have hw := hw.1 c20
          obtain ⟨x22, ex22⟩ : ∃ y : Int32, y = v1 + (1 : Int32) := ⟨_, rfl⟩
          have hw := hw x22 ex22
          refine lv_iinc (v := x22) (lv' := [(1, .int x22), (0, .ref h_p0), (2, .long v18)]) hx hb dX9_turns_101 hl (k := 1) rfl (by rw [ex22]; rfl) (by decide) rfl (fun ls hl => ?_)
          refine lv_goto (tgt := 34) hx hb dX9_turns_104 (by decide) ?_
          exact ih _ hw _ _ _ hP hD hS (lv_sub hl [1, 0] rfl)
        · have hw := hw.2 c21
          refine lv_iconst (v := 0) hx hb dX9_turns_99 (by decide) ?_
          exact x_iret (w1 := fun (u : Unit) => (wld_X9_turns cI cJ cZ h_p0 ad_p0 ad_p0_hand ad_p0_net p0_goings p0_latestFault p0_hand_rowSize p0_hand_waySize p0_net_places p0_net_steps p0_net_coloured p0_hand_row p0_net_puts p0_net_takes)) hx hb hr hlocks () hw hP hD hS dX9_turns_100
set_option maxHeartbeats 4000000 in
set_option maxRecDepth 100000 in
theorem c_X9_turns {l : Launch} {dC : Nat → ClassId} {dI : Nat → Nat → Nat} {sz : Nat} {cI cJ cZ : ClassId} {h_p0 : Nat} {ad_p0 : Nat → Nat} {ad_p0_hand : Nat → Nat} {ad_p0_net : Nat → Nat} {p0_goings : Int32} {p0_latestFault : Int32} {p0_hand_rowSize : Int32} {p0_hand_waySize : Int32} {p0_net_places : Int32} {p0_net_steps : Int32} {p0_net_coloured : Int32} {p0_hand_row : Nat → Int32} {p0_net_puts : Nat → Int32} {p0_net_takes : Nat → Int32}  {post : Int32 → Prop} (hw : w_X9_turns p0_hand_rowSize p0_net_places p0_net_steps p0_hand_row p0_net_puts p0_net_takes post) : Met l yX9_turns wsX9_turns ({ frames := 2, cells := 0, slots := 0, locals := 43 }) (va_Pc [.ref h_p0] (xPre (dC, dI) cI cJ cZ (wld_X9_turns cI cJ cZ h_p0 ad_p0 ad_p0_hand ad_p0_net p0_goings p0_latestFault p0_hand_rowSize p0_hand_waySize p0_net_places p0_net_steps p0_net_coloured p0_hand_row p0_net_puts p0_net_takes) sz)) (q_X9_turns dC dI cI cJ cZ h_p0 ad_p0 ad_p0_hand ad_p0_net p0_goings p0_latestFault p0_hand_rowSize p0_hand_waySize p0_net_places p0_net_steps p0_net_coloured p0_hand_row p0_net_puts p0_net_takes post (va_A (wld_X9_turns cI cJ cZ h_p0 ad_p0 ad_p0_hand ad_p0_net p0_goings p0_latestFault p0_hand_rowSize p0_hand_waySize p0_net_places p0_net_steps p0_net_coloured p0_hand_row p0_net_puts p0_net_takes) sz)) 0 0 (va_A (wld_X9_turns cI cJ cZ h_p0 ad_p0 ad_p0_hand ad_p0_net p0_goings p0_latestFault p0_hand_rowSize p0_hand_waySize p0_net_places p0_net_steps p0_net_coloured p0_hand_row p0_net_puts p0_net_takes) sz) := by
  refine x_met (cc := cX9_turns) (maxL := 5) (ret := (some .int)) (own := RX9) (Qc := fun A => (q_X9_turns dC dI cI cJ cZ h_p0 ad_p0 ad_p0_hand ad_p0_net p0_goings p0_latestFault p0_hand_rowSize p0_hand_waySize p0_net_places p0_net_steps p0_net_coloured p0_hand_row p0_net_puts p0_net_takes post A)) (by decide) rfl rfl (Nat.le_of_ble_eq_true rfl) ?_
  intro p e s m args below meth c A ls E0 hP hD hS hl
  obtain ⟨hx, hb, hr, hml, hown, hts, hlocks, hK, hA, n1, n2⟩ := id E0
  have iX2 : ∀ w ∈ u_ws RX2 TX2 4, w ∈ wsX9_turns := fun w h => List.mem_cons_of_mem _ (List.mem_append_right _ h)
  have iX5 : ∀ w ∈ u_ws RX5 TX5 14, w ∈ wsX9_turns := fun w h => List.mem_cons_of_mem _ (List.mem_append_left _ (List.mem_append_right _ h))
  have iX9 : ∀ w ∈ u_ws RX9 TX9 12, w ∈ wsX9_turns := fun w h => List.mem_cons_of_mem _ (List.mem_append_left _ (List.mem_append_left _ (List.mem_append_right _ h)))
  have hS0 := hS
  have hl : lv_has ls 5 [(0, .ref h_p0)] := hl
  unfold w_X9_turns at hw
  obtain ⟨H, hH⟩ : ∃ H, H = s.heap := ⟨_, rfl⟩
  have hS : va_S A s.heap H [] := by rw [hH]; exact hS
  have hP : va_P (dC, dI) vwCl (wld_X9_turns cI cJ cZ h_p0 ad_p0 ad_p0_hand ad_p0_net p0_goings p0_latestFault p0_hand_rowSize p0_hand_waySize p0_net_places p0_net_steps p0_net_coloured p0_hand_row p0_net_puts p0_net_takes) H := by rw [hH]; exact hP
  suffices hG : W p l e ({ frames := 2, cells := 0, slots := 0, locals := 43 }) s m args below meth c H [] 0 0 (MQ below (q_X9_turns dC dI cI cJ cZ h_p0 ad_p0 ad_p0_hand ad_p0_net p0_goings p0_latestFault p0_hand_rowSize p0_hand_waySize p0_net_places p0_net_steps p0_net_coloured p0_hand_row p0_net_puts p0_net_takes post A) args s 0 0 A) (F0 m 0 ls []) by rw [hH] at hG; exact hG
  clear hH
  refine lv_iconst (v := 0) hx hb dX9_turns_0 (by decide) ?_
  refine lv_istore_n (lv' := [(1, .int (0 : Int32)), (0, .ref h_p0)]) hx hb dX9_turns_1 rfl hl (by decide) rfl (fun ls hl => ?_)
  obtain ⟨n7, hw⟩ := hw
  refine c_X9_turns_L2 (l := l)  E0 ?_ n7 _ hw _ _ _ hP hD hS (lv_sub hl [1, 0] rfl)
  · intro v8 H locs ls hw hP hD hS hl
    have hP : va_P (dC, dI) vwCl (wld_X9_turns cI cJ cZ h_p0 ad_p0 ad_p0_hand ad_p0_net p0_goings p0_latestFault p0_hand_rowSize p0_hand_waySize p0_net_places p0_net_steps p0_net_coloured p0_hand_row p0_net_puts p0_net_takes) H := hP
    have hD : va_D A (wld_X9_turns cI cJ cZ h_p0 ad_p0 ad_p0_hand ad_p0_net p0_goings p0_latestFault p0_hand_rowSize p0_hand_waySize p0_net_places p0_net_steps p0_net_coloured p0_hand_row p0_net_puts p0_net_takes) := hD
    refine lv_iconst (v := 0) hx hb dX9_turns_32 (by decide) ?_
    refine lv_istore_n (lv' := [(1, .int (0 : Int32)), (0, .ref h_p0)]) hx hb dX9_turns_33 rfl hl (by decide) rfl (fun ls hl => ?_)
    obtain ⟨n23, hw⟩ := hw
    refine c_X9_turns_L34 (l := l)  E0 ?_ n23 _ hw _ _ _ hP hD hS (lv_sub hl [1, 0] rfl)
    · intro v24 H locs ls hw hP hD hS hl
      have hP : va_P (dC, dI) vwCl (wld_X9_turns cI cJ cZ h_p0 ad_p0 ad_p0_hand ad_p0_net p0_goings p0_latestFault p0_hand_rowSize p0_hand_waySize p0_net_places p0_net_steps p0_net_coloured p0_hand_row p0_net_puts p0_net_takes) H := hP
      have hD : va_D A (wld_X9_turns cI cJ cZ h_p0 ad_p0 ad_p0_hand ad_p0_net p0_goings p0_latestFault p0_hand_rowSize p0_hand_waySize p0_net_places p0_net_steps p0_net_coloured p0_hand_row p0_net_puts p0_net_takes) := hD
      refine lv_iconst (v := 1) hx hb dX9_turns_107 (by decide) ?_
      exact x_iret (w1 := fun (u : Unit) => (wld_X9_turns cI cJ cZ h_p0 ad_p0 ad_p0_hand ad_p0_net p0_goings p0_latestFault p0_hand_rowSize p0_hand_waySize p0_net_places p0_net_steps p0_net_coloured p0_hand_row p0_net_puts p0_net_takes)) hx hb hr hlocks () hw hP hD hS dX9_turns_108
abbrev wld_X9_isSetKind (cI cJ cZ : ClassId) : va_W := []
abbrev q_X9_isSetKind (dC : Nat → ClassId) (dI : Nat → Nat → Nat) (cI cJ cZ : ClassId) (post : Int32 → Prop) (A : Nat → Prop) : Array Value → State → Outcome → State → Prop := va_Qi (fun r (u : Unit) => post r ) (fun (u : Unit) t => xPost (dC, dI) A (wld_X9_isSetKind cI cJ cZ) t) A
def w_X9_isSetKind (a0 : Int32) (post : Int32 → Prop) : Prop :=
  (a0 = 0 →
    (post (1 : Int32))) ∧
  (¬ a0 = 0 →
    (¬ a0 = (1 : Int32) →
      (post (0 : Int32))) ∧
    (a0 = (1 : Int32) →
      (post (1 : Int32))))
set_option maxHeartbeats 4000000 in
set_option maxRecDepth 100000 in
theorem c_X9_isSetKind {l : Launch} {dC : Nat → ClassId} {dI : Nat → Nat → Nat} {sz : Nat} {cI cJ cZ : ClassId} {a0 : Int32} {post : Int32 → Prop} (hw : w_X9_isSetKind a0 post) : Met l yX9_isSetKind wsX9_isSetKind ({ frames := 0, cells := 0, slots := 0, locals := 0 }) (va_Pc [.int a0] (xPre (dC, dI) cI cJ cZ (wld_X9_isSetKind cI cJ cZ) sz)) (q_X9_isSetKind dC dI cI cJ cZ post (va_A (wld_X9_isSetKind cI cJ cZ) sz)) 0 0 (va_A (wld_X9_isSetKind cI cJ cZ) sz) := by
  refine x_met (cc := cX9_isSetKind) (maxL := 1) (ret := (some .boolean)) (own := RX9) (Qc := fun A => (q_X9_isSetKind dC dI cI cJ cZ post A)) (by decide) rfl rfl (Nat.le_of_ble_eq_true rfl) ?_
  intro p e s m args below meth c A ls E0 hP hD hS hl
  obtain ⟨hx, hb, hr, hml, hown, hts, hlocks, hK, hA, n1, n2⟩ := id E0
  have hS0 := hS
  have hl : lv_has ls 1 [(0, .int a0)] := hl
  unfold w_X9_isSetKind at hw
  obtain ⟨H, hH⟩ : ∃ H, H = s.heap := ⟨_, rfl⟩
  have hS : va_S A s.heap H [] := by rw [hH]; exact hS
  have hP : va_P (dC, dI) vwCl (wld_X9_isSetKind cI cJ cZ) H := by rw [hH]; exact hP
  suffices hG : W p l e ({ frames := 0, cells := 0, slots := 0, locals := 0 }) s m args below meth c H [] 0 0 (MQ below (q_X9_isSetKind dC dI cI cJ cZ post A) args s 0 0 A) (F0 m 0 ls []) by rw [hH] at hG; exact hG
  clear hH
  refine lv_iload_n hx hb dX9_isSetKind_0 rfl (lv_at hl 0 rfl) ?_
  refine lv_if_eq (tgt := 9) hx hb dX9_isSetKind_1 (by decide) (fun c1 => ?_) (fun c2 => ?_)
  · have hw := hw.1 c1
    refine lv_iconst (v := 1) hx hb dX9_isSetKind_9 (by decide) ?_
    refine lv_goto (tgt := 14) hx hb dX9_isSetKind_10 (by decide) ?_
    exact x_zret (w1 := fun (u : Unit) => (wld_X9_isSetKind cI cJ cZ)) hx hb hr hlocks (by decide) () hw hP hD hS dX9_isSetKind_14
  · have hw := hw.2 c2
    refine lv_iload_n hx hb dX9_isSetKind_4 rfl (lv_at hl 0 rfl) ?_
    refine lv_iconst (v := 1) hx hb dX9_isSetKind_5 (by decide) ?_
    refine lv_icmp_ne (tgt := 13) hx hb dX9_isSetKind_6 (by decide) (fun c3 => ?_) (fun c4 => ?_)
    · have hw := hw.1 c3
      refine lv_iconst (v := 0) hx hb dX9_isSetKind_13 (by decide) ?_
      exact x_zret (w1 := fun (u : Unit) => (wld_X9_isSetKind cI cJ cZ)) hx hb hr hlocks (by decide) () hw hP hD hS dX9_isSetKind_14
    · have hw := hw.2 c4
      refine lv_iconst (v := 1) hx hb dX9_isSetKind_9 (by decide) ?_
      refine lv_goto (tgt := 14) hx hb dX9_isSetKind_10 (by decide) ?_
      exact x_zret (w1 := fun (u : Unit) => (wld_X9_isSetKind cI cJ cZ)) hx hb hr hlocks (by decide) () hw hP hD hS dX9_isSetKind_14
abbrev wld_X9_sets (cI cJ cZ : ClassId) (h_p0 : Nat) (ad_p0 : Nat → Nat) (ad_p0_net : Nat → Nat) (ad_p0_told : Nat → Nat) (p0_goings : Int32) (p0_latestFault : Int32) (p0_net_places : Int32) (p0_net_steps : Int32) (p0_net_coloured : Int32) (p0_told_size : Int32) (p0_net_putsInto : Nat → Int32) (p0_net_takesFrom : Nat → Int32) (p0_told_sets : Nat → Int32) : va_W := [(h_p0, .inr (9, [.ref (ad_p0 0), .ref (ad_p0 1), .ref (ad_p0 2), .ref (ad_p0 3), .ref (ad_p0 4), .ref (ad_p0 5), .ref (ad_p0 6), .ref (ad_p0 7), .ref (ad_p0 8), .ref (ad_p0 9), .int p0_goings, .int p0_latestFault])), ((ad_p0 0), .inr (5, [.ref (ad_p0_net 0), .ref (ad_p0_net 1), .ref (ad_p0_net 2), .ref (ad_p0_net 3), .ref (ad_p0_net 4), .ref (ad_p0_net 5), .ref (ad_p0_net 6), .ref (ad_p0_net 7), .ref (ad_p0_net 8), .ref (ad_p0_net 9), .ref (ad_p0_net 10), .int p0_net_places, .int p0_net_steps, .int p0_net_coloured])), ((ad_p0_net 9), .inl (cI, 16, .inl p0_net_putsInto)), ((ad_p0_net 8), .inl (cI, 16, .inl p0_net_takesFrom)), ((ad_p0 9), .inr (7, [.ref (ad_p0_told 0), .int p0_told_size])), ((ad_p0_told 0), .inl (cI, 500, .inl p0_told_sets))]
abbrev q_X9_sets (dC : Nat → ClassId) (dI : Nat → Nat → Nat) (cI cJ cZ : ClassId) (h_p0 : Nat) (ad_p0 : Nat → Nat) (ad_p0_net : Nat → Nat) (ad_p0_told : Nat → Nat) (p0_goings : Int32) (p0_latestFault : Int32) (p0_net_places : Int32) (p0_net_steps : Int32) (p0_net_coloured : Int32) (p0_told_size : Int32) (p0_net_putsInto : Nat → Int32) (p0_net_takesFrom : Nat → Int32) (p0_told_sets : Nat → Int32) (post : Int32 → (Int32) → (Nat → Int32) → Prop) (A : Nat → Prop) : Array Value → State → Outcome → State → Prop := va_Qi (fun r (u : (Int32) × (Nat → Int32)) => post r (u.1) (u.2)) (fun (u : (Int32) × (Nat → Int32)) t => xPost (dC, dI) A (wld_X9_sets cI cJ cZ h_p0 ad_p0 ad_p0_net ad_p0_told p0_goings p0_latestFault p0_net_places p0_net_steps p0_net_coloured (u.1) p0_net_putsInto p0_net_takesFrom (u.2)) t) A
def w_X9_sets (p0_net_places : Int32) (p0_net_steps : Int32) (p0_told_size : Int32) (p0_net_putsInto : Nat → Int32) (p0_net_takesFrom : Nat → Int32) (p0_told_sets : Nat → Int32) (a1 : Int32) (a2 : Int32) (post : Int32 → (Int32) → (Nat → Int32) → Prop) : Prop :=
  w_X9_isSetKind a1 (fun r1 =>
  (r1 = 0 →
    (post (-2000000001 : Int32) p0_told_size p0_told_sets)) ∧
  (¬ r1 = 0 →
    (a2 < (1 : Int32) →
      (post (-2000000001 : Int32) p0_told_size p0_told_sets)) ∧
    (¬ a2 < (1 : Int32) →
      (a2 ≤ (500 : Int32) →
        w_X7_collect p0_told_size p0_net_places p0_net_steps p0_told_sets p0_net_putsInto p0_net_takesFrom a1 a2 (fun y8 y9 =>
        (post y8 y8 y9))) ∧
      (¬ a2 ≤ (500 : Int32) →
        (post (-2000000001 : Int32) p0_told_size p0_told_sets)))))
set_option maxHeartbeats 4000000 in
set_option maxRecDepth 100000 in
theorem c_X9_sets {l : Launch} {dC : Nat → ClassId} {dI : Nat → Nat → Nat} {sz : Nat} {cI cJ cZ : ClassId} {h_p0 : Nat} {ad_p0 : Nat → Nat} {ad_p0_net : Nat → Nat} {ad_p0_told : Nat → Nat} {p0_goings : Int32} {p0_latestFault : Int32} {p0_net_places : Int32} {p0_net_steps : Int32} {p0_net_coloured : Int32} {p0_told_size : Int32} {p0_net_putsInto : Nat → Int32} {p0_net_takesFrom : Nat → Int32} {p0_told_sets : Nat → Int32} {a1 : Int32} {a2 : Int32} {post : Int32 → (Int32) → (Nat → Int32) → Prop} (hw : w_X9_sets p0_net_places p0_net_steps p0_told_size p0_net_putsInto p0_net_takesFrom p0_told_sets a1 a2 post) : Met l yX9_sets wsX9_sets ({ frames := 23, cells := 0, slots := 0, locals := 610 }) (va_Pc [.ref h_p0, .int a1, .int a2] (xPre (dC, dI) cI cJ cZ (wld_X9_sets cI cJ cZ h_p0 ad_p0 ad_p0_net ad_p0_told p0_goings p0_latestFault p0_net_places p0_net_steps p0_net_coloured p0_told_size p0_net_putsInto p0_net_takesFrom p0_told_sets) sz)) (q_X9_sets dC dI cI cJ cZ h_p0 ad_p0 ad_p0_net ad_p0_told p0_goings p0_latestFault p0_net_places p0_net_steps p0_net_coloured p0_told_size p0_net_putsInto p0_net_takesFrom p0_told_sets post (va_A (wld_X9_sets cI cJ cZ h_p0 ad_p0 ad_p0_net ad_p0_told p0_goings p0_latestFault p0_net_places p0_net_steps p0_net_coloured p0_told_size p0_net_putsInto p0_net_takesFrom p0_told_sets) sz)) 0 0 (va_A (wld_X9_sets cI cJ cZ h_p0 ad_p0 ad_p0_net ad_p0_told p0_goings p0_latestFault p0_net_places p0_net_steps p0_net_coloured p0_told_size p0_net_putsInto p0_net_takesFrom p0_told_sets) sz) := by
  refine x_met (cc := cX9_sets) (maxL := 3) (ret := (some .int)) (own := RX9) (Qc := fun A => (q_X9_sets dC dI cI cJ cZ h_p0 ad_p0 ad_p0_net ad_p0_told p0_goings p0_latestFault p0_net_places p0_net_steps p0_net_coloured p0_told_size p0_net_putsInto p0_net_takesFrom p0_told_sets post A)) (by decide) rfl rfl (Nat.le_of_ble_eq_true rfl) ?_
  intro p e s m args below meth c A ls E0 hP hD hS hl
  obtain ⟨hx, hb, hr, hml, hown, hts, hlocks, hK, hA, n1, n2⟩ := id E0
  have iX5 : ∀ w ∈ u_ws RX5 TX5 14, w ∈ wsX9_sets := fun w h => List.mem_cons_of_mem _ (List.mem_append_right _ h)
  have iX7 : ∀ w ∈ u_ws RX7 TX7 2, w ∈ wsX9_sets := fun w h => List.mem_cons_of_mem _ (List.mem_append_left _ (List.mem_append_right _ h))
  have iX9 : ∀ w ∈ u_ws RX9 TX9 12, w ∈ wsX9_sets := fun w h => List.mem_cons_of_mem _ (List.mem_append_left _ (List.mem_append_left _ (List.mem_append_right _ h)))
  have hS0 := hS
  have hl : lv_has ls 3 [(0, .ref h_p0), (1, .int a1), (2, .int a2)] := hl
  unfold w_X9_sets at hw
  obtain ⟨H, hH⟩ : ∃ H, H = s.heap := ⟨_, rfl⟩
  have hS : va_S A s.heap H [] := by rw [hH]; exact hS
  have hP : va_P (dC, dI) vwCl (wld_X9_sets cI cJ cZ h_p0 ad_p0 ad_p0_net ad_p0_told p0_goings p0_latestFault p0_net_places p0_net_steps p0_net_coloured p0_told_size p0_net_putsInto p0_net_takesFrom p0_told_sets) H := by rw [hH]; exact hP
  suffices hG : W p l e ({ frames := 23, cells := 0, slots := 0, locals := 610 }) s m args below meth c H [] 0 0 (MQ below (q_X9_sets dC dI cI cJ cZ h_p0 ad_p0 ad_p0_net ad_p0_told p0_goings p0_latestFault p0_net_places p0_net_steps p0_net_coloured p0_told_size p0_net_putsInto p0_net_takesFrom p0_told_sets post A) args s 0 0 A) (F0 m 0 ls []) by rw [hH] at hG; exact hG
  clear hH
  refine lv_iload_n hx hb dX9_sets_0 rfl (lv_at hl 1 rfl) ?_
  obtain ⟨hPc, hDc⟩ := x_sub (wc := (wld_X9_isSetKind cI cJ cZ )) hP hD [] (n := 6) rfl rfl (by decide +kernel)
  refine x_calli (ws' := fun (u : Unit) => (wld_X9_sets cI cJ cZ h_p0 ad_p0 ad_p0_net ad_p0_told p0_goings p0_latestFault p0_net_places p0_net_steps p0_net_coloured p0_told_size p0_net_putsInto p0_net_takesFrom p0_told_sets)) hP hD hS hA [] [0, 1, 2, 3, 4, 5] [0, 1, 2, 3, 4, 5] (n := 6) (k := 0) rfl (fun _ => rfl) rfl (by decide +kernel) (fun _ => rfl) (va_runS (As := [.int a1]) (rest := []) ⟨hx, hb, hml, hown, hts⟩ (c_X9_isSetKind (l := l) (dC := dC) (dI := dI) (cI := cI) (cJ := cJ) (cZ := cZ) (sz := H.size) hw) (va_cwS 1 hts gX9_sets_X9_isSetKind rfl rfl rfl (by decide +kernel) ⟨Nat.le_of_ble_eq_true rfl, Nat.le_of_ble_eq_true rfl⟩) ⟨xPre_blind, xPre_at hK hPc hDc n1 n2⟩ rfl rfl hl.1 rfl (lv_room (Nat.le_of_ble_eq_true rfl)) dX9_sets_1 ⟨Nat.zero_le _, Nat.zero_le _⟩) (fun r1 u H locs hw hP hD hS => ?_)
  try dsimp only at hw
  have hP : va_P (dC, dI) vwCl (wld_X9_sets cI cJ cZ h_p0 ad_p0 ad_p0_net ad_p0_told p0_goings p0_latestFault p0_net_places p0_net_steps p0_net_coloured p0_told_size p0_net_putsInto p0_net_takesFrom p0_told_sets) H := hP
  have hD : va_D A (wld_X9_sets cI cJ cZ h_p0 ad_p0 ad_p0_net ad_p0_told p0_goings p0_latestFault p0_net_places p0_net_steps p0_net_coloured p0_told_size p0_net_putsInto p0_net_takesFrom p0_told_sets) := hD
  refine lv_if_eq (tgt := 19) hx hb dX9_sets_4 (by decide) (fun c2 => ?_) (fun c3 => ?_)
  · have hw := hw.1 c2
    refine lv_ldc (v := -2000000001) hx hb hown (hts (.constant RX9 79 (-2000000001)) (by decide +kernel)) dX9_sets_19 ?_
    exact x_iret (w1 := fun (u : (Int32) × (Nat → Int32)) => (wld_X9_sets cI cJ cZ h_p0 ad_p0 ad_p0_net ad_p0_told p0_goings p0_latestFault p0_net_places p0_net_steps p0_net_coloured (u.1) p0_net_putsInto p0_net_takesFrom (u.2))) hx hb hr hlocks (p0_told_size, p0_told_sets) hw hP hD hS dX9_sets_21
  · have hw := hw.2 c3
    refine lv_iload_n hx hb dX9_sets_7 rfl (lv_at hl 2 rfl) ?_
    refine lv_iconst (v := 1) hx hb dX9_sets_8 (by decide) ?_
    refine lv_icmp_lt (tgt := 19) hx hb dX9_sets_9 (by decide) (fun c4 => ?_) (fun c5 => ?_)
    · have hw := hw.1 c4
      refine lv_ldc (v := -2000000001) hx hb hown (hts (.constant RX9 79 (-2000000001)) (by decide +kernel)) dX9_sets_19 ?_
      exact x_iret (w1 := fun (u : (Int32) × (Nat → Int32)) => (wld_X9_sets cI cJ cZ h_p0 ad_p0 ad_p0_net ad_p0_told p0_goings p0_latestFault p0_net_places p0_net_steps p0_net_coloured (u.1) p0_net_putsInto p0_net_takesFrom (u.2))) hx hb hr hlocks (p0_told_size, p0_told_sets) hw hP hD hS dX9_sets_21
    · have hw := hw.2 c5
      refine lv_iload_n hx hb dX9_sets_12 rfl (lv_at hl 2 rfl) ?_
      refine lv_sipush (v := 500) hx hb dX9_sets_13 (by decide) ?_
      refine lv_icmp_le (tgt := 22) hx hb dX9_sets_16 (by decide) (fun c6 => ?_) (fun c7 => ?_)
      · have hw := hw.1 c6
        refine lv_aload_n hx hb dX9_sets_22 rfl (lv_at hl 0 rfl) ?_
        refine va_get (D := (dC, dI)) (ci := 9) (v := .ref (ad_p0 9)) (C := RX9) (T := TX9) (N := 12) hx hb hts iX9 hown hK hP 0 rfl rfl 9 (by decide) (hts (.fieldLink RX9 67 "NetHouse" "told" "LNetHouse$SetList;") (by decide +kernel)) (fun _ h9 => h9) rfl dX9_sets_23 ?_
        refine lv_aload_n hx hb dX9_sets_26 rfl (lv_at hl 0 rfl) ?_
        refine va_get (D := (dC, dI)) (ci := 9) (v := .ref (ad_p0 0)) (C := RX9) (T := TX9) (N := 12) hx hb hts iX9 hown hK hP 0 rfl rfl 0 (by decide) (hts (.fieldLink RX9 10 "NetHouse" "net" "LNetHouse$Net;") (by decide +kernel)) (fun _ h9 => h9) rfl dX9_sets_27 ?_
        refine lv_iload_n hx hb dX9_sets_30 rfl (lv_at hl 1 rfl) ?_
        refine lv_iload_n hx hb dX9_sets_31 rfl (lv_at hl 2 rfl) ?_
        obtain ⟨hPc, hDc⟩ := x_sub (wc := (wld_X7_collect cI cJ cZ (ad_p0 9) (ad_p0 0) ad_p0_told ad_p0_net p0_told_size p0_net_places p0_net_steps p0_net_coloured p0_told_sets p0_net_putsInto p0_net_takesFrom)) hP hD [4, 5, 1, 2, 3] (n := 6) rfl rfl (by decide +kernel)
        refine x_callv (ws' := fun (u : (Int32) × (Nat → Int32)) => (wld_X9_sets cI cJ cZ h_p0 ad_p0 ad_p0_net ad_p0_told p0_goings p0_latestFault p0_net_places p0_net_steps p0_net_coloured (u.1) p0_net_putsInto p0_net_takesFrom (u.2))) hP hD hS hA [4, 5, 1, 2, 3] [0] [0, 3, 4, 5, 1, 2] (n := 6) (k := 5) rfl (fun _ => rfl) rfl (by decide +kernel) (fun _ => rfl) (va_runV (As := [.ref (ad_p0 0), .int a1, .int a2]) (rest := []) ⟨hx, hb, hml, hown, hts⟩ (c_X7_collect (l := l) (dC := dC) (dI := dI) (cI := cI) (cJ := cJ) (cZ := cZ) (sz := H.size) (h_p0 := (ad_p0 9)) (h_p1 := (ad_p0 0)) (ad_p0 := ad_p0_told) (ad_p1 := ad_p0_net) (p0_size := p0_told_size) (p1_places := p0_net_places) (p1_steps := p0_net_steps) (p1_coloured := p0_net_coloured) (p0_sets := p0_told_sets) (p1_putsInto := p0_net_putsInto) (p1_takesFrom := p0_net_takesFrom) hw) (cwV 3 hts gX9_sets_X7_collect rfl rfl rfl (by decide +kernel) ⟨Nat.le_of_ble_eq_true rfl, Nat.le_of_ble_eq_true rfl⟩) ⟨xPre_blind, va_recv hK hP (ci := 7) (q0 := 4) rfl rfl, xPre_at hK hPc hDc n1 n2⟩ rfl rfl hl.1 rfl (lv_room (Nat.le_of_ble_eq_true rfl)) dX9_sets_32 ⟨Nat.zero_le _, Nat.zero_le _⟩) (fun u H locs hw hP hD hS => ?_)
        obtain ⟨y8, y9⟩ := u
        try dsimp only at hw
        have hP : va_P (dC, dI) vwCl (wld_X9_sets cI cJ cZ h_p0 ad_p0 ad_p0_net ad_p0_told p0_goings p0_latestFault p0_net_places p0_net_steps p0_net_coloured y8 p0_net_putsInto p0_net_takesFrom y9) H := hP
        have hD : va_D A (wld_X9_sets cI cJ cZ h_p0 ad_p0 ad_p0_net ad_p0_told p0_goings p0_latestFault p0_net_places p0_net_steps p0_net_coloured y8 p0_net_putsInto p0_net_takesFrom y9) := hD
        refine lv_aload_n hx hb dX9_sets_35 rfl (lv_at hl 0 rfl) ?_
        refine va_get (D := (dC, dI)) (ci := 9) (v := .ref (ad_p0 9)) (C := RX9) (T := TX9) (N := 12) hx hb hts iX9 hown hK hP 0 rfl rfl 9 (by decide) (hts (.fieldLink RX9 67 "NetHouse" "told" "LNetHouse$SetList;") (by decide +kernel)) (fun _ h9 => h9) rfl dX9_sets_36 ?_
        refine va_get (D := (dC, dI)) (ci := 7) (v := .int y8) (C := RX7) (T := TX7) (N := 2) hx hb hts iX7 hown hK hP 4 rfl rfl 1 (by decide) (hts (.fieldLink RX9 360 "NetHouse$SetList" "size" "I") (by decide +kernel)) (fun _ h9 => h9) rfl dX9_sets_39 ?_
        exact x_iret (w1 := fun (u : (Int32) × (Nat → Int32)) => (wld_X9_sets cI cJ cZ h_p0 ad_p0 ad_p0_net ad_p0_told p0_goings p0_latestFault p0_net_places p0_net_steps p0_net_coloured (u.1) p0_net_putsInto p0_net_takesFrom (u.2))) hx hb hr hlocks (y8, y9) hw hP hD hS dX9_sets_42
      · have hw := hw.2 c7
        refine lv_ldc (v := -2000000001) hx hb hown (hts (.constant RX9 79 (-2000000001)) (by decide +kernel)) dX9_sets_19 ?_
        exact x_iret (w1 := fun (u : (Int32) × (Nat → Int32)) => (wld_X9_sets cI cJ cZ h_p0 ad_p0 ad_p0_net ad_p0_told p0_goings p0_latestFault p0_net_places p0_net_steps p0_net_coloured (u.1) p0_net_putsInto p0_net_takesFrom (u.2))) hx hb hr hlocks (p0_told_size, p0_told_sets) hw hP hD hS dX9_sets_21
abbrev wld_X9_bits (cI cJ cZ : ClassId) (h_p0 : Nat) (ad_p0 : Nat → Nat) (ad_p0_told : Nat → Nat) (p0_goings : Int32) (p0_latestFault : Int32) (p0_told_size : Int32) (p0_told_sets : Nat → Int32) : va_W := [(h_p0, .inr (9, [.ref (ad_p0 0), .ref (ad_p0 1), .ref (ad_p0 2), .ref (ad_p0 3), .ref (ad_p0 4), .ref (ad_p0 5), .ref (ad_p0 6), .ref (ad_p0 7), .ref (ad_p0 8), .ref (ad_p0 9), .int p0_goings, .int p0_latestFault])), ((ad_p0 9), .inr (7, [.ref (ad_p0_told 0), .int p0_told_size])), ((ad_p0_told 0), .inl (cI, 500, .inl p0_told_sets))]
abbrev q_X9_bits (dC : Nat → ClassId) (dI : Nat → Nat → Nat) (cI cJ cZ : ClassId) (h_p0 : Nat) (ad_p0 : Nat → Nat) (ad_p0_told : Nat → Nat) (p0_goings : Int32) (p0_latestFault : Int32) (p0_told_size : Int32) (p0_told_sets : Nat → Int32) (post : Int32 → Prop) (A : Nat → Prop) : Array Value → State → Outcome → State → Prop := va_Qi (fun r (u : Unit) => post r ) (fun (u : Unit) t => xPost (dC, dI) A (wld_X9_bits cI cJ cZ h_p0 ad_p0 ad_p0_told p0_goings p0_latestFault p0_told_size p0_told_sets) t) A
def w_X9_bits (p0_told_size : Int32) (p0_told_sets : Nat → Int32) (a1 : Int32) (post : Int32 → Prop) : Prop :=
  (a1 < 0 →
    (post (-2000000001 : Int32))) ∧
  (¬ a1 < 0 →
    (p0_told_size ≤ a1 →
      (post (-2000000001 : Int32))) ∧
    (¬ p0_told_size ≤ a1 →
      vp_in a1 500 ∧
      (post (p0_told_sets a1.toNatClampNeg))))
set_option maxHeartbeats 4000000 in
set_option maxRecDepth 100000 in
theorem c_X9_bits {l : Launch} {dC : Nat → ClassId} {dI : Nat → Nat → Nat} {sz : Nat} {cI cJ cZ : ClassId} {h_p0 : Nat} {ad_p0 : Nat → Nat} {ad_p0_told : Nat → Nat} {p0_goings : Int32} {p0_latestFault : Int32} {p0_told_size : Int32} {p0_told_sets : Nat → Int32} {a1 : Int32} {post : Int32 → Prop} (hw : w_X9_bits p0_told_size p0_told_sets a1 post) : Met l yX9_bits wsX9_bits ({ frames := 0, cells := 0, slots := 0, locals := 0 }) (va_Pc [.ref h_p0, .int a1] (xPre (dC, dI) cI cJ cZ (wld_X9_bits cI cJ cZ h_p0 ad_p0 ad_p0_told p0_goings p0_latestFault p0_told_size p0_told_sets) sz)) (q_X9_bits dC dI cI cJ cZ h_p0 ad_p0 ad_p0_told p0_goings p0_latestFault p0_told_size p0_told_sets post (va_A (wld_X9_bits cI cJ cZ h_p0 ad_p0 ad_p0_told p0_goings p0_latestFault p0_told_size p0_told_sets) sz)) 0 0 (va_A (wld_X9_bits cI cJ cZ h_p0 ad_p0 ad_p0_told p0_goings p0_latestFault p0_told_size p0_told_sets) sz) := by
  refine x_met (cc := cX9_bits) (maxL := 2) (ret := (some .int)) (own := RX9) (Qc := fun A => (q_X9_bits dC dI cI cJ cZ h_p0 ad_p0 ad_p0_told p0_goings p0_latestFault p0_told_size p0_told_sets post A)) (by decide) rfl rfl (Nat.le_of_ble_eq_true rfl) ?_
  intro p e s m args below meth c A ls E0 hP hD hS hl
  obtain ⟨hx, hb, hr, hml, hown, hts, hlocks, hK, hA, n1, n2⟩ := id E0
  have iX7 : ∀ w ∈ u_ws RX7 TX7 2, w ∈ wsX9_bits := fun w h => List.mem_cons_of_mem _ (List.mem_append_right _ h)
  have iX9 : ∀ w ∈ u_ws RX9 TX9 12, w ∈ wsX9_bits := fun w h => List.mem_cons_of_mem _ (List.mem_append_left _ (List.mem_append_right _ h))
  have hS0 := hS
  have hl : lv_has ls 2 [(0, .ref h_p0), (1, .int a1)] := hl
  unfold w_X9_bits at hw
  obtain ⟨H, hH⟩ : ∃ H, H = s.heap := ⟨_, rfl⟩
  have hS : va_S A s.heap H [] := by rw [hH]; exact hS
  have hP : va_P (dC, dI) vwCl (wld_X9_bits cI cJ cZ h_p0 ad_p0 ad_p0_told p0_goings p0_latestFault p0_told_size p0_told_sets) H := by rw [hH]; exact hP
  suffices hG : W p l e ({ frames := 0, cells := 0, slots := 0, locals := 0 }) s m args below meth c H [] 0 0 (MQ below (q_X9_bits dC dI cI cJ cZ h_p0 ad_p0 ad_p0_told p0_goings p0_latestFault p0_told_size p0_told_sets post A) args s 0 0 A) (F0 m 0 ls []) by rw [hH] at hG; exact hG
  clear hH
  refine lv_iload_n hx hb dX9_bits_0 rfl (lv_at hl 1 rfl) ?_
  refine lv_if_lt (tgt := 27) hx hb dX9_bits_1 (by decide) (fun c1 => ?_) (fun c2 => ?_)
  · have hw := hw.1 c1
    refine lv_ldc (v := -2000000001) hx hb hown (hts (.constant RX9 79 (-2000000001)) (by decide +kernel)) dX9_bits_27 ?_
    exact x_iret (w1 := fun (u : Unit) => (wld_X9_bits cI cJ cZ h_p0 ad_p0 ad_p0_told p0_goings p0_latestFault p0_told_size p0_told_sets)) hx hb hr hlocks () hw hP hD hS dX9_bits_29
  · have hw := hw.2 c2
    refine lv_iload_n hx hb dX9_bits_4 rfl (lv_at hl 1 rfl) ?_
    refine lv_aload_n hx hb dX9_bits_5 rfl (lv_at hl 0 rfl) ?_
    refine va_get (D := (dC, dI)) (ci := 9) (v := .ref (ad_p0 9)) (C := RX9) (T := TX9) (N := 12) hx hb hts iX9 hown hK hP 0 rfl rfl 9 (by decide) (hts (.fieldLink RX9 67 "NetHouse" "told" "LNetHouse$SetList;") (by decide +kernel)) (fun _ h9 => h9) rfl dX9_bits_6 ?_
    refine va_get (D := (dC, dI)) (ci := 7) (v := .int p0_told_size) (C := RX7) (T := TX7) (N := 2) hx hb hts iX7 hown hK hP 1 rfl rfl 1 (by decide) (hts (.fieldLink RX9 360 "NetHouse$SetList" "size" "I") (by decide +kernel)) (fun _ h9 => h9) rfl dX9_bits_9 ?_
    refine lv_icmp_ge (tgt := 27) hx hb dX9_bits_12 (by decide) (fun c3 => ?_) (fun c4 => ?_)
    · have hw := hw.1 c3
      refine lv_ldc (v := -2000000001) hx hb hown (hts (.constant RX9 79 (-2000000001)) (by decide +kernel)) dX9_bits_27 ?_
      exact x_iret (w1 := fun (u : Unit) => (wld_X9_bits cI cJ cZ h_p0 ad_p0 ad_p0_told p0_goings p0_latestFault p0_told_size p0_told_sets)) hx hb hr hlocks () hw hP hD hS dX9_bits_29
    · have hw := hw.2 c4
      refine lv_aload_n hx hb dX9_bits_15 rfl (lv_at hl 0 rfl) ?_
      refine va_get (D := (dC, dI)) (ci := 9) (v := .ref (ad_p0 9)) (C := RX9) (T := TX9) (N := 12) hx hb hts iX9 hown hK hP 0 rfl rfl 9 (by decide) (hts (.fieldLink RX9 67 "NetHouse" "told" "LNetHouse$SetList;") (by decide +kernel)) (fun _ h9 => h9) rfl dX9_bits_16 ?_
      refine va_get (D := (dC, dI)) (ci := 7) (v := .ref (ad_p0_told 0)) (C := RX7) (T := TX7) (N := 2) hx hb hts iX7 hown hK hP 1 rfl rfl 0 (by decide) (hts (.fieldLink RX9 361 "NetHouse$SetList" "sets" "[I") (by decide +kernel)) (fun _ h9 => h9) rfl dX9_bits_19 ?_
      refine lv_iload_n hx hb dX9_bits_22 rfl (lv_at hl 1 rfl) ?_
      refine va_iald hx hb hK hP 2 0 rfl rfl hw.1 dX9_bits_23 ?_
      have hw := hw.2
      refine lv_goto (tgt := 29) hx hb dX9_bits_24 (by decide) ?_
      exact x_iret (w1 := fun (u : Unit) => (wld_X9_bits cI cJ cZ h_p0 ad_p0 ad_p0_told p0_goings p0_latestFault p0_told_size p0_told_sets)) hx hb hr hlocks () hw hP hD hS dX9_bits_29
abbrev wld_X9_isSet (cI cJ cZ : ClassId) (h_p0 : Nat) (ad_p0 : Nat → Nat) (ad_p0_net : Nat → Nat) (p0_goings : Int32) (p0_latestFault : Int32) (p0_net_places : Int32) (p0_net_steps : Int32) (p0_net_coloured : Int32) (p0_net_putsInto : Nat → Int32) (p0_net_takesFrom : Nat → Int32) : va_W := [(h_p0, .inr (9, [.ref (ad_p0 0), .ref (ad_p0 1), .ref (ad_p0 2), .ref (ad_p0 3), .ref (ad_p0 4), .ref (ad_p0 5), .ref (ad_p0 6), .ref (ad_p0 7), .ref (ad_p0 8), .ref (ad_p0 9), .int p0_goings, .int p0_latestFault])), ((ad_p0 0), .inr (5, [.ref (ad_p0_net 0), .ref (ad_p0_net 1), .ref (ad_p0_net 2), .ref (ad_p0_net 3), .ref (ad_p0_net 4), .ref (ad_p0_net 5), .ref (ad_p0_net 6), .ref (ad_p0_net 7), .ref (ad_p0_net 8), .ref (ad_p0_net 9), .ref (ad_p0_net 10), .int p0_net_places, .int p0_net_steps, .int p0_net_coloured])), ((ad_p0_net 9), .inl (cI, 16, .inl p0_net_putsInto)), ((ad_p0_net 8), .inl (cI, 16, .inl p0_net_takesFrom))]
abbrev q_X9_isSet (dC : Nat → ClassId) (dI : Nat → Nat → Nat) (cI cJ cZ : ClassId) (h_p0 : Nat) (ad_p0 : Nat → Nat) (ad_p0_net : Nat → Nat) (p0_goings : Int32) (p0_latestFault : Int32) (p0_net_places : Int32) (p0_net_steps : Int32) (p0_net_coloured : Int32) (p0_net_putsInto : Nat → Int32) (p0_net_takesFrom : Nat → Int32) (post : Int32 → Prop) (A : Nat → Prop) : Array Value → State → Outcome → State → Prop := va_Qi (fun r (u : Unit) => post r ) (fun (u : Unit) t => xPost (dC, dI) A (wld_X9_isSet cI cJ cZ h_p0 ad_p0 ad_p0_net p0_goings p0_latestFault p0_net_places p0_net_steps p0_net_coloured p0_net_putsInto p0_net_takesFrom) t) A
def w_X9_isSet (p0_net_places : Int32) (p0_net_steps : Int32) (p0_net_putsInto : Nat → Int32) (p0_net_takesFrom : Nat → Int32) (a1 : Int32) (a2 : Int32) (post : Int32 → Prop) : Prop :=
  w_X9_isSetKind a2 (fun r1 =>
  (r1 = 0 →
    (post (-2000000001 : Int32))) ∧
  (¬ r1 = 0 →
    w_X5_hasPlaces p0_net_places a1 (fun r4 =>
    (¬ r4 = 0 →
      (a1 = 0 →
        (post (0 : Int32))) ∧
      (¬ a1 = 0 →
        w_X5_greatestWithin p0_net_places p0_net_steps p0_net_putsInto p0_net_takesFrom a1 a2 (fun r9 =>
        (¬ r9 = a1 →
          (post (0 : Int32))) ∧
        (r9 = a1 →
          (post (1 : Int32)))))) ∧
    (r4 = 0 →
      (post (-2000000001 : Int32))))))
set_option maxHeartbeats 4000000 in
set_option maxRecDepth 100000 in
theorem c_X9_isSet {l : Launch} {dC : Nat → ClassId} {dI : Nat → Nat → Nat} {sz : Nat} {cI cJ cZ : ClassId} {h_p0 : Nat} {ad_p0 : Nat → Nat} {ad_p0_net : Nat → Nat} {p0_goings : Int32} {p0_latestFault : Int32} {p0_net_places : Int32} {p0_net_steps : Int32} {p0_net_coloured : Int32} {p0_net_putsInto : Nat → Int32} {p0_net_takesFrom : Nat → Int32} {a1 : Int32} {a2 : Int32} {post : Int32 → Prop} (hw : w_X9_isSet p0_net_places p0_net_steps p0_net_putsInto p0_net_takesFrom a1 a2 post) : Met l yX9_isSet wsX9_isSet ({ frames := 2, cells := 0, slots := 0, locals := 49 }) (va_Pc [.ref h_p0, .int a1, .int a2] (xPre (dC, dI) cI cJ cZ (wld_X9_isSet cI cJ cZ h_p0 ad_p0 ad_p0_net p0_goings p0_latestFault p0_net_places p0_net_steps p0_net_coloured p0_net_putsInto p0_net_takesFrom) sz)) (q_X9_isSet dC dI cI cJ cZ h_p0 ad_p0 ad_p0_net p0_goings p0_latestFault p0_net_places p0_net_steps p0_net_coloured p0_net_putsInto p0_net_takesFrom post (va_A (wld_X9_isSet cI cJ cZ h_p0 ad_p0 ad_p0_net p0_goings p0_latestFault p0_net_places p0_net_steps p0_net_coloured p0_net_putsInto p0_net_takesFrom) sz)) 0 0 (va_A (wld_X9_isSet cI cJ cZ h_p0 ad_p0 ad_p0_net p0_goings p0_latestFault p0_net_places p0_net_steps p0_net_coloured p0_net_putsInto p0_net_takesFrom) sz) := by
  refine x_met (cc := cX9_isSet) (maxL := 3) (ret := (some .int)) (own := RX9) (Qc := fun A => (q_X9_isSet dC dI cI cJ cZ h_p0 ad_p0 ad_p0_net p0_goings p0_latestFault p0_net_places p0_net_steps p0_net_coloured p0_net_putsInto p0_net_takesFrom post A)) (by decide) rfl rfl (Nat.le_of_ble_eq_true rfl) ?_
  intro p e s m args below meth c A ls E0 hP hD hS hl
  obtain ⟨hx, hb, hr, hml, hown, hts, hlocks, hK, hA, n1, n2⟩ := id E0
  have iX5 : ∀ w ∈ u_ws RX5 TX5 14, w ∈ wsX9_isSet := fun w h => List.mem_cons_of_mem _ (List.mem_append_right _ h)
  have iX9 : ∀ w ∈ u_ws RX9 TX9 12, w ∈ wsX9_isSet := fun w h => List.mem_cons_of_mem _ (List.mem_append_left _ (List.mem_append_right _ h))
  have hS0 := hS
  have hl : lv_has ls 3 [(0, .ref h_p0), (1, .int a1), (2, .int a2)] := hl
  unfold w_X9_isSet at hw
  obtain ⟨H, hH⟩ : ∃ H, H = s.heap := ⟨_, rfl⟩
  have hS : va_S A s.heap H [] := by rw [hH]; exact hS
  have hP : va_P (dC, dI) vwCl (wld_X9_isSet cI cJ cZ h_p0 ad_p0 ad_p0_net p0_goings p0_latestFault p0_net_places p0_net_steps p0_net_coloured p0_net_putsInto p0_net_takesFrom) H := by rw [hH]; exact hP
  suffices hG : W p l e ({ frames := 2, cells := 0, slots := 0, locals := 49 }) s m args below meth c H [] 0 0 (MQ below (q_X9_isSet dC dI cI cJ cZ h_p0 ad_p0 ad_p0_net p0_goings p0_latestFault p0_net_places p0_net_steps p0_net_coloured p0_net_putsInto p0_net_takesFrom post A) args s 0 0 A) (F0 m 0 ls []) by rw [hH] at hG; exact hG
  clear hH
  refine lv_iload_n hx hb dX9_isSet_0 rfl (lv_at hl 2 rfl) ?_
  obtain ⟨hPc, hDc⟩ := x_sub (wc := (wld_X9_isSetKind cI cJ cZ )) hP hD [] (n := 4) rfl rfl (by decide +kernel)
  refine x_calli (ws' := fun (u : Unit) => (wld_X9_isSet cI cJ cZ h_p0 ad_p0 ad_p0_net p0_goings p0_latestFault p0_net_places p0_net_steps p0_net_coloured p0_net_putsInto p0_net_takesFrom)) hP hD hS hA [] [0, 1, 2, 3] [0, 1, 2, 3] (n := 4) (k := 0) rfl (fun _ => rfl) rfl (by decide +kernel) (fun _ => rfl) (va_runS (As := [.int a2]) (rest := []) ⟨hx, hb, hml, hown, hts⟩ (c_X9_isSetKind (l := l) (dC := dC) (dI := dI) (cI := cI) (cJ := cJ) (cZ := cZ) (sz := H.size) hw) (va_cwS 1 hts gX9_isSet_X9_isSetKind rfl rfl rfl (by decide +kernel) ⟨Nat.le_of_ble_eq_true rfl, Nat.le_of_ble_eq_true rfl⟩) ⟨xPre_blind, xPre_at hK hPc hDc n1 n2⟩ rfl rfl hl.1 rfl (lv_room (Nat.le_of_ble_eq_true rfl)) dX9_isSet_1 ⟨Nat.zero_le _, Nat.zero_le _⟩) (fun r1 u H locs hw hP hD hS => ?_)
  try dsimp only at hw
  have hP : va_P (dC, dI) vwCl (wld_X9_isSet cI cJ cZ h_p0 ad_p0 ad_p0_net p0_goings p0_latestFault p0_net_places p0_net_steps p0_net_coloured p0_net_putsInto p0_net_takesFrom) H := hP
  have hD : va_D A (wld_X9_isSet cI cJ cZ h_p0 ad_p0 ad_p0_net p0_goings p0_latestFault p0_net_places p0_net_steps p0_net_coloured p0_net_putsInto p0_net_takesFrom) := hD
  refine lv_if_eq (tgt := 18) hx hb dX9_isSet_4 (by decide) (fun c2 => ?_) (fun c3 => ?_)
  · have hw := hw.1 c2
    refine lv_ldc (v := -2000000001) hx hb hown (hts (.constant RX9 79 (-2000000001)) (by decide +kernel)) dX9_isSet_18 ?_
    exact x_iret (w1 := fun (u : Unit) => (wld_X9_isSet cI cJ cZ h_p0 ad_p0 ad_p0_net p0_goings p0_latestFault p0_net_places p0_net_steps p0_net_coloured p0_net_putsInto p0_net_takesFrom)) hx hb hr hlocks () hw hP hD hS dX9_isSet_20
  · have hw := hw.2 c3
    refine lv_aload_n hx hb dX9_isSet_7 rfl (lv_at hl 0 rfl) ?_
    refine va_get (D := (dC, dI)) (ci := 9) (v := .ref (ad_p0 0)) (C := RX9) (T := TX9) (N := 12) hx hb hts iX9 hown hK hP 0 rfl rfl 0 (by decide) (hts (.fieldLink RX9 10 "NetHouse" "net" "LNetHouse$Net;") (by decide +kernel)) (fun _ h9 => h9) rfl dX9_isSet_8 ?_
    refine lv_iload_n hx hb dX9_isSet_11 rfl (lv_at hl 1 rfl) ?_
    obtain ⟨hPc, hDc⟩ := x_sub (wc := (wld_X5_hasPlaces cI cJ cZ (ad_p0 0) ad_p0_net p0_net_places p0_net_steps p0_net_coloured)) hP hD [1] (n := 4) rfl rfl (by decide +kernel)
    refine x_calli (ws' := fun (u : Unit) => (wld_X9_isSet cI cJ cZ h_p0 ad_p0 ad_p0_net p0_goings p0_latestFault p0_net_places p0_net_steps p0_net_coloured p0_net_putsInto p0_net_takesFrom)) hP hD hS hA [1] [0, 2, 3] [0, 3, 1, 2] (n := 4) (k := 1) rfl (fun _ => rfl) rfl (by decide +kernel) (fun _ => rfl) (va_runV (As := [.int a1]) (rest := []) ⟨hx, hb, hml, hown, hts⟩ (c_X5_hasPlaces (l := l) (dC := dC) (dI := dI) (cI := cI) (cJ := cJ) (cZ := cZ) (sz := H.size) (h_p0 := (ad_p0 0)) (ad_p0 := ad_p0_net) (p0_places := p0_net_places) (p0_steps := p0_net_steps) (p0_coloured := p0_net_coloured) hw) (cwV 1 hts gX9_isSet_X5_hasPlaces rfl rfl rfl (by decide +kernel) ⟨Nat.le_of_ble_eq_true rfl, Nat.le_of_ble_eq_true rfl⟩) ⟨xPre_blind, va_recv hK hP (ci := 5) (q0 := 1) rfl rfl, xPre_at hK hPc hDc n1 n2⟩ rfl rfl hl.1 rfl (lv_room (Nat.le_of_ble_eq_true rfl)) dX9_isSet_12 ⟨Nat.zero_le _, Nat.zero_le _⟩) (fun r4 u H locs hw hP hD hS => ?_)
    try dsimp only at hw
    have hP : va_P (dC, dI) vwCl (wld_X9_isSet cI cJ cZ h_p0 ad_p0 ad_p0_net p0_goings p0_latestFault p0_net_places p0_net_steps p0_net_coloured p0_net_putsInto p0_net_takesFrom) H := hP
    have hD : va_D A (wld_X9_isSet cI cJ cZ h_p0 ad_p0 ad_p0_net p0_goings p0_latestFault p0_net_places p0_net_steps p0_net_coloured p0_net_putsInto p0_net_takesFrom) := hD
    refine lv_if_ne (tgt := 21) hx hb dX9_isSet_15 (by decide) (fun c5 => ?_) (fun c6 => ?_)
    · have hw := hw.1 c5
      refine lv_iload_n hx hb dX9_isSet_21 rfl (lv_at hl 1 rfl) ?_
      refine lv_if_eq (tgt := 42) hx hb dX9_isSet_22 (by decide) (fun c7 => ?_) (fun c8 => ?_)
      · have hw := hw.1 c7
        refine lv_iconst (v := 0) hx hb dX9_isSet_42 (by decide) ?_
        exact x_iret (w1 := fun (u : Unit) => (wld_X9_isSet cI cJ cZ h_p0 ad_p0 ad_p0_net p0_goings p0_latestFault p0_net_places p0_net_steps p0_net_coloured p0_net_putsInto p0_net_takesFrom)) hx hb hr hlocks () hw hP hD hS dX9_isSet_43
      · have hw := hw.2 c8
        refine lv_aload_n hx hb dX9_isSet_25 rfl (lv_at hl 0 rfl) ?_
        refine va_get (D := (dC, dI)) (ci := 9) (v := .ref (ad_p0 0)) (C := RX9) (T := TX9) (N := 12) hx hb hts iX9 hown hK hP 0 rfl rfl 0 (by decide) (hts (.fieldLink RX9 10 "NetHouse" "net" "LNetHouse$Net;") (by decide +kernel)) (fun _ h9 => h9) rfl dX9_isSet_26 ?_
        refine lv_iload_n hx hb dX9_isSet_29 rfl (lv_at hl 1 rfl) ?_
        refine lv_iload_n hx hb dX9_isSet_30 rfl (lv_at hl 2 rfl) ?_
        obtain ⟨hPc, hDc⟩ := x_sub (wc := (wld_X5_greatestWithin cI cJ cZ (ad_p0 0) ad_p0_net p0_net_places p0_net_steps p0_net_coloured p0_net_putsInto p0_net_takesFrom)) hP hD [1, 2, 3] (n := 4) rfl rfl (by decide +kernel)
        refine x_calli (ws' := fun (u : Unit) => (wld_X9_isSet cI cJ cZ h_p0 ad_p0 ad_p0_net p0_goings p0_latestFault p0_net_places p0_net_steps p0_net_coloured p0_net_putsInto p0_net_takesFrom)) hP hD hS hA [1, 2, 3] [0] [0, 1, 2, 3] (n := 4) (k := 3) rfl (fun _ => rfl) rfl (by decide +kernel) (fun _ => rfl) (va_runV (As := [.int a1, .int a2]) (rest := []) ⟨hx, hb, hml, hown, hts⟩ (c_X5_greatestWithin (l := l) (dC := dC) (dI := dI) (cI := cI) (cJ := cJ) (cZ := cZ) (sz := H.size) (h_p0 := (ad_p0 0)) (ad_p0 := ad_p0_net) (p0_places := p0_net_places) (p0_steps := p0_net_steps) (p0_coloured := p0_net_coloured) (p0_putsInto := p0_net_putsInto) (p0_takesFrom := p0_net_takesFrom) hw) (cwV 2 hts gX9_isSet_X5_greatestWithin rfl rfl rfl (by decide +kernel) ⟨Nat.le_of_ble_eq_true rfl, Nat.le_of_ble_eq_true rfl⟩) ⟨xPre_blind, va_recv hK hP (ci := 5) (q0 := 1) rfl rfl, xPre_at hK hPc hDc n1 n2⟩ rfl rfl hl.1 rfl (lv_room (Nat.le_of_ble_eq_true rfl)) dX9_isSet_31 ⟨Nat.zero_le _, Nat.zero_le _⟩) (fun r9 u H locs hw hP hD hS => ?_)
        try dsimp only at hw
        have hP : va_P (dC, dI) vwCl (wld_X9_isSet cI cJ cZ h_p0 ad_p0 ad_p0_net p0_goings p0_latestFault p0_net_places p0_net_steps p0_net_coloured p0_net_putsInto p0_net_takesFrom) H := hP
        have hD : va_D A (wld_X9_isSet cI cJ cZ h_p0 ad_p0 ad_p0_net p0_goings p0_latestFault p0_net_places p0_net_steps p0_net_coloured p0_net_putsInto p0_net_takesFrom) := hD
        refine lv_iload_n hx hb dX9_isSet_34 rfl (lv_at hl 1 rfl) ?_
        refine lv_icmp_ne (tgt := 42) hx hb dX9_isSet_35 (by decide) (fun c10 => ?_) (fun c11 => ?_)
        · have hw := hw.1 c10
          refine lv_iconst (v := 0) hx hb dX9_isSet_42 (by decide) ?_
          exact x_iret (w1 := fun (u : Unit) => (wld_X9_isSet cI cJ cZ h_p0 ad_p0 ad_p0_net p0_goings p0_latestFault p0_net_places p0_net_steps p0_net_coloured p0_net_putsInto p0_net_takesFrom)) hx hb hr hlocks () hw hP hD hS dX9_isSet_43
        · have hw := hw.2 c11
          refine lv_iconst (v := 1) hx hb dX9_isSet_38 (by decide) ?_
          refine lv_goto (tgt := 43) hx hb dX9_isSet_39 (by decide) ?_
          exact x_iret (w1 := fun (u : Unit) => (wld_X9_isSet cI cJ cZ h_p0 ad_p0 ad_p0_net p0_goings p0_latestFault p0_net_places p0_net_steps p0_net_coloured p0_net_putsInto p0_net_takesFrom)) hx hb hr hlocks () hw hP hD hS dX9_isSet_43
    · have hw := hw.2 c6
      refine lv_ldc (v := -2000000001) hx hb hown (hts (.constant RX9 79 (-2000000001)) (by decide +kernel)) dX9_isSet_18 ?_
      exact x_iret (w1 := fun (u : Unit) => (wld_X9_isSet cI cJ cZ h_p0 ad_p0 ad_p0_net p0_goings p0_latestFault p0_net_places p0_net_steps p0_net_coloured p0_net_putsInto p0_net_takesFrom)) hx hb hr hlocks () hw hP hD hS dX9_isSet_20
abbrev wld_X9_greatest (cI cJ cZ : ClassId) (h_p0 : Nat) (ad_p0 : Nat → Nat) (ad_p0_net : Nat → Nat) (p0_goings : Int32) (p0_latestFault : Int32) (p0_net_places : Int32) (p0_net_steps : Int32) (p0_net_coloured : Int32) (p0_net_putsInto : Nat → Int32) (p0_net_takesFrom : Nat → Int32) : va_W := [(h_p0, .inr (9, [.ref (ad_p0 0), .ref (ad_p0 1), .ref (ad_p0 2), .ref (ad_p0 3), .ref (ad_p0 4), .ref (ad_p0 5), .ref (ad_p0 6), .ref (ad_p0 7), .ref (ad_p0 8), .ref (ad_p0 9), .int p0_goings, .int p0_latestFault])), ((ad_p0 0), .inr (5, [.ref (ad_p0_net 0), .ref (ad_p0_net 1), .ref (ad_p0_net 2), .ref (ad_p0_net 3), .ref (ad_p0_net 4), .ref (ad_p0_net 5), .ref (ad_p0_net 6), .ref (ad_p0_net 7), .ref (ad_p0_net 8), .ref (ad_p0_net 9), .ref (ad_p0_net 10), .int p0_net_places, .int p0_net_steps, .int p0_net_coloured])), ((ad_p0_net 9), .inl (cI, 16, .inl p0_net_putsInto)), ((ad_p0_net 8), .inl (cI, 16, .inl p0_net_takesFrom))]
abbrev q_X9_greatest (dC : Nat → ClassId) (dI : Nat → Nat → Nat) (cI cJ cZ : ClassId) (h_p0 : Nat) (ad_p0 : Nat → Nat) (ad_p0_net : Nat → Nat) (p0_goings : Int32) (p0_latestFault : Int32) (p0_net_places : Int32) (p0_net_steps : Int32) (p0_net_coloured : Int32) (p0_net_putsInto : Nat → Int32) (p0_net_takesFrom : Nat → Int32) (post : Int32 → Prop) (A : Nat → Prop) : Array Value → State → Outcome → State → Prop := va_Qi (fun r (u : Unit) => post r ) (fun (u : Unit) t => xPost (dC, dI) A (wld_X9_greatest cI cJ cZ h_p0 ad_p0 ad_p0_net p0_goings p0_latestFault p0_net_places p0_net_steps p0_net_coloured p0_net_putsInto p0_net_takesFrom) t) A
def w_X9_greatest (p0_net_places : Int32) (p0_net_steps : Int32) (p0_net_putsInto : Nat → Int32) (p0_net_takesFrom : Nat → Int32) (a1 : Int32) (a2 : Int32) (post : Int32 → Prop) : Prop :=
  w_X9_isSetKind a2 (fun r1 =>
  (r1 = 0 →
    (post (-2000000001 : Int32))) ∧
  (¬ r1 = 0 →
    w_X5_hasPlaces p0_net_places a1 (fun r4 =>
    (¬ r4 = 0 →
      w_X5_greatestWithin p0_net_places p0_net_steps p0_net_putsInto p0_net_takesFrom a1 a2 (fun r7 =>
      (post r7))) ∧
    (r4 = 0 →
      (post (-2000000001 : Int32))))))
set_option maxHeartbeats 4000000 in
set_option maxRecDepth 100000 in
theorem c_X9_greatest {l : Launch} {dC : Nat → ClassId} {dI : Nat → Nat → Nat} {sz : Nat} {cI cJ cZ : ClassId} {h_p0 : Nat} {ad_p0 : Nat → Nat} {ad_p0_net : Nat → Nat} {p0_goings : Int32} {p0_latestFault : Int32} {p0_net_places : Int32} {p0_net_steps : Int32} {p0_net_coloured : Int32} {p0_net_putsInto : Nat → Int32} {p0_net_takesFrom : Nat → Int32} {a1 : Int32} {a2 : Int32} {post : Int32 → Prop} (hw : w_X9_greatest p0_net_places p0_net_steps p0_net_putsInto p0_net_takesFrom a1 a2 post) : Met l yX9_greatest wsX9_greatest ({ frames := 2, cells := 0, slots := 0, locals := 49 }) (va_Pc [.ref h_p0, .int a1, .int a2] (xPre (dC, dI) cI cJ cZ (wld_X9_greatest cI cJ cZ h_p0 ad_p0 ad_p0_net p0_goings p0_latestFault p0_net_places p0_net_steps p0_net_coloured p0_net_putsInto p0_net_takesFrom) sz)) (q_X9_greatest dC dI cI cJ cZ h_p0 ad_p0 ad_p0_net p0_goings p0_latestFault p0_net_places p0_net_steps p0_net_coloured p0_net_putsInto p0_net_takesFrom post (va_A (wld_X9_greatest cI cJ cZ h_p0 ad_p0 ad_p0_net p0_goings p0_latestFault p0_net_places p0_net_steps p0_net_coloured p0_net_putsInto p0_net_takesFrom) sz)) 0 0 (va_A (wld_X9_greatest cI cJ cZ h_p0 ad_p0 ad_p0_net p0_goings p0_latestFault p0_net_places p0_net_steps p0_net_coloured p0_net_putsInto p0_net_takesFrom) sz) := by
  refine x_met (cc := cX9_greatest) (maxL := 3) (ret := (some .int)) (own := RX9) (Qc := fun A => (q_X9_greatest dC dI cI cJ cZ h_p0 ad_p0 ad_p0_net p0_goings p0_latestFault p0_net_places p0_net_steps p0_net_coloured p0_net_putsInto p0_net_takesFrom post A)) (by decide) rfl rfl (Nat.le_of_ble_eq_true rfl) ?_
  intro p e s m args below meth c A ls E0 hP hD hS hl
  obtain ⟨hx, hb, hr, hml, hown, hts, hlocks, hK, hA, n1, n2⟩ := id E0
  have iX5 : ∀ w ∈ u_ws RX5 TX5 14, w ∈ wsX9_greatest := fun w h => List.mem_cons_of_mem _ (List.mem_append_right _ h)
  have iX9 : ∀ w ∈ u_ws RX9 TX9 12, w ∈ wsX9_greatest := fun w h => List.mem_cons_of_mem _ (List.mem_append_left _ (List.mem_append_right _ h))
  have hS0 := hS
  have hl : lv_has ls 3 [(0, .ref h_p0), (1, .int a1), (2, .int a2)] := hl
  unfold w_X9_greatest at hw
  obtain ⟨H, hH⟩ : ∃ H, H = s.heap := ⟨_, rfl⟩
  have hS : va_S A s.heap H [] := by rw [hH]; exact hS
  have hP : va_P (dC, dI) vwCl (wld_X9_greatest cI cJ cZ h_p0 ad_p0 ad_p0_net p0_goings p0_latestFault p0_net_places p0_net_steps p0_net_coloured p0_net_putsInto p0_net_takesFrom) H := by rw [hH]; exact hP
  suffices hG : W p l e ({ frames := 2, cells := 0, slots := 0, locals := 49 }) s m args below meth c H [] 0 0 (MQ below (q_X9_greatest dC dI cI cJ cZ h_p0 ad_p0 ad_p0_net p0_goings p0_latestFault p0_net_places p0_net_steps p0_net_coloured p0_net_putsInto p0_net_takesFrom post A) args s 0 0 A) (F0 m 0 ls []) by rw [hH] at hG; exact hG
  clear hH
  refine lv_iload_n hx hb dX9_greatest_0 rfl (lv_at hl 2 rfl) ?_
  obtain ⟨hPc, hDc⟩ := x_sub (wc := (wld_X9_isSetKind cI cJ cZ )) hP hD [] (n := 4) rfl rfl (by decide +kernel)
  refine x_calli (ws' := fun (u : Unit) => (wld_X9_greatest cI cJ cZ h_p0 ad_p0 ad_p0_net p0_goings p0_latestFault p0_net_places p0_net_steps p0_net_coloured p0_net_putsInto p0_net_takesFrom)) hP hD hS hA [] [0, 1, 2, 3] [0, 1, 2, 3] (n := 4) (k := 0) rfl (fun _ => rfl) rfl (by decide +kernel) (fun _ => rfl) (va_runS (As := [.int a2]) (rest := []) ⟨hx, hb, hml, hown, hts⟩ (c_X9_isSetKind (l := l) (dC := dC) (dI := dI) (cI := cI) (cJ := cJ) (cZ := cZ) (sz := H.size) hw) (va_cwS 1 hts gX9_greatest_X9_isSetKind rfl rfl rfl (by decide +kernel) ⟨Nat.le_of_ble_eq_true rfl, Nat.le_of_ble_eq_true rfl⟩) ⟨xPre_blind, xPre_at hK hPc hDc n1 n2⟩ rfl rfl hl.1 rfl (lv_room (Nat.le_of_ble_eq_true rfl)) dX9_greatest_1 ⟨Nat.zero_le _, Nat.zero_le _⟩) (fun r1 u H locs hw hP hD hS => ?_)
  try dsimp only at hw
  have hP : va_P (dC, dI) vwCl (wld_X9_greatest cI cJ cZ h_p0 ad_p0 ad_p0_net p0_goings p0_latestFault p0_net_places p0_net_steps p0_net_coloured p0_net_putsInto p0_net_takesFrom) H := hP
  have hD : va_D A (wld_X9_greatest cI cJ cZ h_p0 ad_p0 ad_p0_net p0_goings p0_latestFault p0_net_places p0_net_steps p0_net_coloured p0_net_putsInto p0_net_takesFrom) := hD
  refine lv_if_eq (tgt := 18) hx hb dX9_greatest_4 (by decide) (fun c2 => ?_) (fun c3 => ?_)
  · have hw := hw.1 c2
    refine lv_ldc (v := -2000000001) hx hb hown (hts (.constant RX9 79 (-2000000001)) (by decide +kernel)) dX9_greatest_18 ?_
    exact x_iret (w1 := fun (u : Unit) => (wld_X9_greatest cI cJ cZ h_p0 ad_p0 ad_p0_net p0_goings p0_latestFault p0_net_places p0_net_steps p0_net_coloured p0_net_putsInto p0_net_takesFrom)) hx hb hr hlocks () hw hP hD hS dX9_greatest_20
  · have hw := hw.2 c3
    refine lv_aload_n hx hb dX9_greatest_7 rfl (lv_at hl 0 rfl) ?_
    refine va_get (D := (dC, dI)) (ci := 9) (v := .ref (ad_p0 0)) (C := RX9) (T := TX9) (N := 12) hx hb hts iX9 hown hK hP 0 rfl rfl 0 (by decide) (hts (.fieldLink RX9 10 "NetHouse" "net" "LNetHouse$Net;") (by decide +kernel)) (fun _ h9 => h9) rfl dX9_greatest_8 ?_
    refine lv_iload_n hx hb dX9_greatest_11 rfl (lv_at hl 1 rfl) ?_
    obtain ⟨hPc, hDc⟩ := x_sub (wc := (wld_X5_hasPlaces cI cJ cZ (ad_p0 0) ad_p0_net p0_net_places p0_net_steps p0_net_coloured)) hP hD [1] (n := 4) rfl rfl (by decide +kernel)
    refine x_calli (ws' := fun (u : Unit) => (wld_X9_greatest cI cJ cZ h_p0 ad_p0 ad_p0_net p0_goings p0_latestFault p0_net_places p0_net_steps p0_net_coloured p0_net_putsInto p0_net_takesFrom)) hP hD hS hA [1] [0, 2, 3] [0, 3, 1, 2] (n := 4) (k := 1) rfl (fun _ => rfl) rfl (by decide +kernel) (fun _ => rfl) (va_runV (As := [.int a1]) (rest := []) ⟨hx, hb, hml, hown, hts⟩ (c_X5_hasPlaces (l := l) (dC := dC) (dI := dI) (cI := cI) (cJ := cJ) (cZ := cZ) (sz := H.size) (h_p0 := (ad_p0 0)) (ad_p0 := ad_p0_net) (p0_places := p0_net_places) (p0_steps := p0_net_steps) (p0_coloured := p0_net_coloured) hw) (cwV 1 hts gX9_greatest_X5_hasPlaces rfl rfl rfl (by decide +kernel) ⟨Nat.le_of_ble_eq_true rfl, Nat.le_of_ble_eq_true rfl⟩) ⟨xPre_blind, va_recv hK hP (ci := 5) (q0 := 1) rfl rfl, xPre_at hK hPc hDc n1 n2⟩ rfl rfl hl.1 rfl (lv_room (Nat.le_of_ble_eq_true rfl)) dX9_greatest_12 ⟨Nat.zero_le _, Nat.zero_le _⟩) (fun r4 u H locs hw hP hD hS => ?_)
    try dsimp only at hw
    have hP : va_P (dC, dI) vwCl (wld_X9_greatest cI cJ cZ h_p0 ad_p0 ad_p0_net p0_goings p0_latestFault p0_net_places p0_net_steps p0_net_coloured p0_net_putsInto p0_net_takesFrom) H := hP
    have hD : va_D A (wld_X9_greatest cI cJ cZ h_p0 ad_p0 ad_p0_net p0_goings p0_latestFault p0_net_places p0_net_steps p0_net_coloured p0_net_putsInto p0_net_takesFrom) := hD
    refine lv_if_ne (tgt := 21) hx hb dX9_greatest_15 (by decide) (fun c5 => ?_) (fun c6 => ?_)
    · have hw := hw.1 c5
      refine lv_aload_n hx hb dX9_greatest_21 rfl (lv_at hl 0 rfl) ?_
      refine va_get (D := (dC, dI)) (ci := 9) (v := .ref (ad_p0 0)) (C := RX9) (T := TX9) (N := 12) hx hb hts iX9 hown hK hP 0 rfl rfl 0 (by decide) (hts (.fieldLink RX9 10 "NetHouse" "net" "LNetHouse$Net;") (by decide +kernel)) (fun _ h9 => h9) rfl dX9_greatest_22 ?_
      refine lv_iload_n hx hb dX9_greatest_25 rfl (lv_at hl 1 rfl) ?_
      refine lv_iload_n hx hb dX9_greatest_26 rfl (lv_at hl 2 rfl) ?_
      obtain ⟨hPc, hDc⟩ := x_sub (wc := (wld_X5_greatestWithin cI cJ cZ (ad_p0 0) ad_p0_net p0_net_places p0_net_steps p0_net_coloured p0_net_putsInto p0_net_takesFrom)) hP hD [1, 2, 3] (n := 4) rfl rfl (by decide +kernel)
      refine x_calli (ws' := fun (u : Unit) => (wld_X9_greatest cI cJ cZ h_p0 ad_p0 ad_p0_net p0_goings p0_latestFault p0_net_places p0_net_steps p0_net_coloured p0_net_putsInto p0_net_takesFrom)) hP hD hS hA [1, 2, 3] [0] [0, 1, 2, 3] (n := 4) (k := 3) rfl (fun _ => rfl) rfl (by decide +kernel) (fun _ => rfl) (va_runV (As := [.int a1, .int a2]) (rest := []) ⟨hx, hb, hml, hown, hts⟩ (c_X5_greatestWithin (l := l) (dC := dC) (dI := dI) (cI := cI) (cJ := cJ) (cZ := cZ) (sz := H.size) (h_p0 := (ad_p0 0)) (ad_p0 := ad_p0_net) (p0_places := p0_net_places) (p0_steps := p0_net_steps) (p0_coloured := p0_net_coloured) (p0_putsInto := p0_net_putsInto) (p0_takesFrom := p0_net_takesFrom) hw) (cwV 2 hts gX9_greatest_X5_greatestWithin rfl rfl rfl (by decide +kernel) ⟨Nat.le_of_ble_eq_true rfl, Nat.le_of_ble_eq_true rfl⟩) ⟨xPre_blind, va_recv hK hP (ci := 5) (q0 := 1) rfl rfl, xPre_at hK hPc hDc n1 n2⟩ rfl rfl hl.1 rfl (lv_room (Nat.le_of_ble_eq_true rfl)) dX9_greatest_27 ⟨Nat.zero_le _, Nat.zero_le _⟩) (fun r7 u H locs hw hP hD hS => ?_)
      try dsimp only at hw
      have hP : va_P (dC, dI) vwCl (wld_X9_greatest cI cJ cZ h_p0 ad_p0 ad_p0_net p0_goings p0_latestFault p0_net_places p0_net_steps p0_net_coloured p0_net_putsInto p0_net_takesFrom) H := hP
      have hD : va_D A (wld_X9_greatest cI cJ cZ h_p0 ad_p0 ad_p0_net p0_goings p0_latestFault p0_net_places p0_net_steps p0_net_coloured p0_net_putsInto p0_net_takesFrom) := hD
      exact x_iret (w1 := fun (u : Unit) => (wld_X9_greatest cI cJ cZ h_p0 ad_p0 ad_p0_net p0_goings p0_latestFault p0_net_places p0_net_steps p0_net_coloured p0_net_putsInto p0_net_takesFrom)) hx hb hr hlocks () hw hP hD hS dX9_greatest_30
    · have hw := hw.2 c6
      refine lv_ldc (v := -2000000001) hx hb hown (hts (.constant RX9 79 (-2000000001)) (by decide +kernel)) dX9_greatest_18 ?_
      exact x_iret (w1 := fun (u : Unit) => (wld_X9_greatest cI cJ cZ h_p0 ad_p0 ad_p0_net p0_goings p0_latestFault p0_net_places p0_net_steps p0_net_coloured p0_net_putsInto p0_net_takesFrom)) hx hb hr hlocks () hw hP hD hS dX9_greatest_20
abbrev wld_X9_free (cI cJ cZ : ClassId) (h_p0 : Nat) (ad_p0 : Nat → Nat) (ad_p0_net : Nat → Nat) (p0_goings : Int32) (p0_latestFault : Int32) (p0_net_places : Int32) (p0_net_steps : Int32) (p0_net_coloured : Int32) (p0_net_puts : Nat → Int32) (p0_net_stepKinds : Nat → Int32) (p0_net_takes : Nat → Int32) (p0_net_takesFrom : Nat → Int32) : va_W := [(h_p0, .inr (9, [.ref (ad_p0 0), .ref (ad_p0 1), .ref (ad_p0 2), .ref (ad_p0 3), .ref (ad_p0 4), .ref (ad_p0 5), .ref (ad_p0 6), .ref (ad_p0 7), .ref (ad_p0 8), .ref (ad_p0 9), .int p0_goings, .int p0_latestFault])), ((ad_p0 0), .inr (5, [.ref (ad_p0_net 0), .ref (ad_p0_net 1), .ref (ad_p0_net 2), .ref (ad_p0_net 3), .ref (ad_p0_net 4), .ref (ad_p0_net 5), .ref (ad_p0_net 6), .ref (ad_p0_net 7), .ref (ad_p0_net 8), .ref (ad_p0_net 9), .ref (ad_p0_net 10), .int p0_net_places, .int p0_net_steps, .int p0_net_coloured])), ((ad_p0_net 3), .inl (cI, 256, .inl p0_net_puts)), ((ad_p0_net 1), .inl (cI, 16, .inl p0_net_stepKinds)), ((ad_p0_net 2), .inl (cI, 256, .inl p0_net_takes)), ((ad_p0_net 8), .inl (cI, 16, .inl p0_net_takesFrom))]
abbrev q_X9_free (dC : Nat → ClassId) (dI : Nat → Nat → Nat) (cI cJ cZ : ClassId) (h_p0 : Nat) (ad_p0 : Nat → Nat) (ad_p0_net : Nat → Nat) (p0_goings : Int32) (p0_latestFault : Int32) (p0_net_places : Int32) (p0_net_steps : Int32) (p0_net_coloured : Int32) (p0_net_puts : Nat → Int32) (p0_net_stepKinds : Nat → Int32) (p0_net_takes : Nat → Int32) (p0_net_takesFrom : Nat → Int32) (post : Int32 → Prop) (A : Nat → Prop) : Array Value → State → Outcome → State → Prop := va_Qi (fun r (u : Unit) => post r ) (fun (u : Unit) t => xPost (dC, dI) A (wld_X9_free cI cJ cZ h_p0 ad_p0 ad_p0_net p0_goings p0_latestFault p0_net_places p0_net_steps p0_net_coloured p0_net_puts p0_net_stepKinds p0_net_takes p0_net_takesFrom) t) A
def w_X9_free (p0_net_coloured : Int32) (p0_net_places : Int32) (p0_net_steps : Int32) (p0_net_puts : Nat → Int32) (p0_net_stepKinds : Nat → Int32) (p0_net_takes : Nat → Int32) (p0_net_takesFrom : Nat → Int32) (post : Int32 → Prop) : Prop :=
  w_X5_isFree p0_net_coloured p0_net_places p0_net_steps p0_net_puts p0_net_stepKinds p0_net_takes p0_net_takesFrom (fun r1 =>
  (r1 = 0 →
    (post (0 : Int32))) ∧
  (¬ r1 = 0 →
    (post (1 : Int32))))
set_option maxHeartbeats 4000000 in
set_option maxRecDepth 100000 in
theorem c_X9_free {l : Launch} {dC : Nat → ClassId} {dI : Nat → Nat → Nat} {sz : Nat} {cI cJ cZ : ClassId} {h_p0 : Nat} {ad_p0 : Nat → Nat} {ad_p0_net : Nat → Nat} {p0_goings : Int32} {p0_latestFault : Int32} {p0_net_places : Int32} {p0_net_steps : Int32} {p0_net_coloured : Int32} {p0_net_puts : Nat → Int32} {p0_net_stepKinds : Nat → Int32} {p0_net_takes : Nat → Int32} {p0_net_takesFrom : Nat → Int32}  {post : Int32 → Prop} (hw : w_X9_free p0_net_coloured p0_net_places p0_net_steps p0_net_puts p0_net_stepKinds p0_net_takes p0_net_takesFrom post) : Met l yX9_free wsX9_free ({ frames := 2, cells := 0, slots := 0, locals := 45 }) (va_Pc [.ref h_p0] (xPre (dC, dI) cI cJ cZ (wld_X9_free cI cJ cZ h_p0 ad_p0 ad_p0_net p0_goings p0_latestFault p0_net_places p0_net_steps p0_net_coloured p0_net_puts p0_net_stepKinds p0_net_takes p0_net_takesFrom) sz)) (q_X9_free dC dI cI cJ cZ h_p0 ad_p0 ad_p0_net p0_goings p0_latestFault p0_net_places p0_net_steps p0_net_coloured p0_net_puts p0_net_stepKinds p0_net_takes p0_net_takesFrom post (va_A (wld_X9_free cI cJ cZ h_p0 ad_p0 ad_p0_net p0_goings p0_latestFault p0_net_places p0_net_steps p0_net_coloured p0_net_puts p0_net_stepKinds p0_net_takes p0_net_takesFrom) sz)) 0 0 (va_A (wld_X9_free cI cJ cZ h_p0 ad_p0 ad_p0_net p0_goings p0_latestFault p0_net_places p0_net_steps p0_net_coloured p0_net_puts p0_net_stepKinds p0_net_takes p0_net_takesFrom) sz) := by
  refine x_met (cc := cX9_free) (maxL := 1) (ret := (some .int)) (own := RX9) (Qc := fun A => (q_X9_free dC dI cI cJ cZ h_p0 ad_p0 ad_p0_net p0_goings p0_latestFault p0_net_places p0_net_steps p0_net_coloured p0_net_puts p0_net_stepKinds p0_net_takes p0_net_takesFrom post A)) (by decide) rfl rfl (Nat.le_of_ble_eq_true rfl) ?_
  intro p e s m args below meth c A ls E0 hP hD hS hl
  obtain ⟨hx, hb, hr, hml, hown, hts, hlocks, hK, hA, n1, n2⟩ := id E0
  have iX5 : ∀ w ∈ u_ws RX5 TX5 14, w ∈ wsX9_free := fun w h => List.mem_cons_of_mem _ (List.mem_append_right _ h)
  have iX9 : ∀ w ∈ u_ws RX9 TX9 12, w ∈ wsX9_free := fun w h => List.mem_cons_of_mem _ (List.mem_append_left _ (List.mem_append_right _ h))
  have hS0 := hS
  have hl : lv_has ls 1 [(0, .ref h_p0)] := hl
  unfold w_X9_free at hw
  obtain ⟨H, hH⟩ : ∃ H, H = s.heap := ⟨_, rfl⟩
  have hS : va_S A s.heap H [] := by rw [hH]; exact hS
  have hP : va_P (dC, dI) vwCl (wld_X9_free cI cJ cZ h_p0 ad_p0 ad_p0_net p0_goings p0_latestFault p0_net_places p0_net_steps p0_net_coloured p0_net_puts p0_net_stepKinds p0_net_takes p0_net_takesFrom) H := by rw [hH]; exact hP
  suffices hG : W p l e ({ frames := 2, cells := 0, slots := 0, locals := 45 }) s m args below meth c H [] 0 0 (MQ below (q_X9_free dC dI cI cJ cZ h_p0 ad_p0 ad_p0_net p0_goings p0_latestFault p0_net_places p0_net_steps p0_net_coloured p0_net_puts p0_net_stepKinds p0_net_takes p0_net_takesFrom post A) args s 0 0 A) (F0 m 0 ls []) by rw [hH] at hG; exact hG
  clear hH
  refine lv_aload_n hx hb dX9_free_0 rfl (lv_at hl 0 rfl) ?_
  refine va_get (D := (dC, dI)) (ci := 9) (v := .ref (ad_p0 0)) (C := RX9) (T := TX9) (N := 12) hx hb hts iX9 hown hK hP 0 rfl rfl 0 (by decide) (hts (.fieldLink RX9 10 "NetHouse" "net" "LNetHouse$Net;") (by decide +kernel)) (fun _ h9 => h9) rfl dX9_free_1 ?_
  obtain ⟨hPc, hDc⟩ := x_sub (wc := (wld_X5_isFree cI cJ cZ (ad_p0 0) ad_p0_net p0_net_places p0_net_steps p0_net_coloured p0_net_puts p0_net_stepKinds p0_net_takes p0_net_takesFrom)) hP hD [1, 2, 3, 4, 5] (n := 6) rfl rfl (by decide +kernel)
  refine x_calli (ws' := fun (u : Unit) => (wld_X9_free cI cJ cZ h_p0 ad_p0 ad_p0_net p0_goings p0_latestFault p0_net_places p0_net_steps p0_net_coloured p0_net_puts p0_net_stepKinds p0_net_takes p0_net_takesFrom)) hP hD hS hA [1, 2, 3, 4, 5] [0] [0, 1, 2, 3, 4, 5] (n := 6) (k := 5) rfl (fun _ => rfl) rfl (by decide +kernel) (fun _ => rfl) (va_runV (As := []) (rest := []) ⟨hx, hb, hml, hown, hts⟩ (c_X5_isFree (l := l) (dC := dC) (dI := dI) (cI := cI) (cJ := cJ) (cZ := cZ) (sz := H.size) (h_p0 := (ad_p0 0)) (ad_p0 := ad_p0_net) (p0_places := p0_net_places) (p0_steps := p0_net_steps) (p0_coloured := p0_net_coloured) (p0_puts := p0_net_puts) (p0_stepKinds := p0_net_stepKinds) (p0_takes := p0_net_takes) (p0_takesFrom := p0_net_takesFrom) hw) (cwV 0 hts gX9_free_X5_isFree rfl rfl rfl (by decide +kernel) ⟨Nat.le_of_ble_eq_true rfl, Nat.le_of_ble_eq_true rfl⟩) ⟨xPre_blind, va_recv hK hP (ci := 5) (q0 := 1) rfl rfl, xPre_at hK hPc hDc n1 n2⟩ rfl rfl hl.1 rfl (lv_room (Nat.le_of_ble_eq_true rfl)) dX9_free_4 ⟨Nat.zero_le _, Nat.zero_le _⟩) (fun r1 u H locs hw hP hD hS => ?_)
  try dsimp only at hw
  have hP : va_P (dC, dI) vwCl (wld_X9_free cI cJ cZ h_p0 ad_p0 ad_p0_net p0_goings p0_latestFault p0_net_places p0_net_steps p0_net_coloured p0_net_puts p0_net_stepKinds p0_net_takes p0_net_takesFrom) H := hP
  have hD : va_D A (wld_X9_free cI cJ cZ h_p0 ad_p0 ad_p0_net p0_goings p0_latestFault p0_net_places p0_net_steps p0_net_coloured p0_net_puts p0_net_stepKinds p0_net_takes p0_net_takesFrom) := hD
  refine lv_if_eq (tgt := 14) hx hb dX9_free_7 (by decide) (fun c2 => ?_) (fun c3 => ?_)
  · have hw := hw.1 c2
    refine lv_iconst (v := 0) hx hb dX9_free_14 (by decide) ?_
    exact x_iret (w1 := fun (u : Unit) => (wld_X9_free cI cJ cZ h_p0 ad_p0 ad_p0_net p0_goings p0_latestFault p0_net_places p0_net_steps p0_net_coloured p0_net_puts p0_net_stepKinds p0_net_takes p0_net_takesFrom)) hx hb hr hlocks () hw hP hD hS dX9_free_15
  · have hw := hw.2 c3
    refine lv_iconst (v := 1) hx hb dX9_free_10 (by decide) ?_
    refine lv_goto (tgt := 15) hx hb dX9_free_11 (by decide) ?_
    exact x_iret (w1 := fun (u : Unit) => (wld_X9_free cI cJ cZ h_p0 ad_p0 ad_p0_net p0_goings p0_latestFault p0_net_places p0_net_steps p0_net_coloured p0_net_puts p0_net_stepKinds p0_net_takes p0_net_takesFrom)) hx hb hr hlocks () hw hP hD hS dX9_free_15
abbrev wld_X9_bare (cI cJ cZ : ClassId) (h_p0 : Nat) (ad_p0 : Nat → Nat) (ad_p0_net : Nat → Nat) (ad_p0_now : Nat → Nat) (p0_goings : Int32) (p0_latestFault : Int32) (p0_net_places : Int32) (p0_net_steps : Int32) (p0_net_coloured : Int32) (p0_net_putsInto : Nat → Int32) (p0_net_takesFrom : Nat → Int32) (p0_now_many : Nat → Int32) : va_W := [(h_p0, .inr (9, [.ref (ad_p0 0), .ref (ad_p0 1), .ref (ad_p0 2), .ref (ad_p0 3), .ref (ad_p0 4), .ref (ad_p0 5), .ref (ad_p0 6), .ref (ad_p0 7), .ref (ad_p0 8), .ref (ad_p0 9), .int p0_goings, .int p0_latestFault])), ((ad_p0 0), .inr (5, [.ref (ad_p0_net 0), .ref (ad_p0_net 1), .ref (ad_p0_net 2), .ref (ad_p0_net 3), .ref (ad_p0_net 4), .ref (ad_p0_net 5), .ref (ad_p0_net 6), .ref (ad_p0_net 7), .ref (ad_p0_net 8), .ref (ad_p0_net 9), .ref (ad_p0_net 10), .int p0_net_places, .int p0_net_steps, .int p0_net_coloured])), ((ad_p0_net 9), .inl (cI, 16, .inl p0_net_putsInto)), ((ad_p0_net 8), .inl (cI, 16, .inl p0_net_takesFrom)), ((ad_p0 1), .inr (3, [.ref (ad_p0_now 0), .ref (ad_p0_now 1)])), ((ad_p0_now 0), .inl (cI, 16, .inl p0_now_many))]
abbrev q_X9_bare (dC : Nat → ClassId) (dI : Nat → Nat → Nat) (cI cJ cZ : ClassId) (h_p0 : Nat) (ad_p0 : Nat → Nat) (ad_p0_net : Nat → Nat) (ad_p0_now : Nat → Nat) (p0_goings : Int32) (p0_latestFault : Int32) (p0_net_places : Int32) (p0_net_steps : Int32) (p0_net_coloured : Int32) (p0_net_putsInto : Nat → Int32) (p0_net_takesFrom : Nat → Int32) (p0_now_many : Nat → Int32) (post : Int32 → Prop) (A : Nat → Prop) : Array Value → State → Outcome → State → Prop := va_Qi (fun r (u : Unit) => post r ) (fun (u : Unit) t => xPost (dC, dI) A (wld_X9_bare cI cJ cZ h_p0 ad_p0 ad_p0_net ad_p0_now p0_goings p0_latestFault p0_net_places p0_net_steps p0_net_coloured p0_net_putsInto p0_net_takesFrom p0_now_many) t) A
def w_X9_bare_L6b (p0_net_places : Int32) (p0_net_steps : Int32) (p0_net_putsInto : Nat → Int32) (p0_net_takesFrom : Nat → Int32) (p0_now_many : Nat → Int32) (post : Int32 → Prop) (K : (Int32) → (Int32) → Prop) (rec : (Int32) → (Int32) → Prop) (v1 : Int32) (v2 : Int32) : Prop :=
    (v2 ≤ 0 →
      K v1 v2) ∧
    (¬ v2 ≤ 0 →
      w_X9_leastBehind p0_net_places p0_net_steps p0_net_putsInto p0_net_takesFrom 18 (0 : Int32) v1 (0 : Int32) p0_net_places (fun r3 =>
      (r3 = 0 →
        (post r3)) ∧
      (¬ r3 = 0 →
        w_X5_greatestWithin p0_net_places p0_net_steps p0_net_putsInto p0_net_takesFrom r3 (1 : Int32) (fun r6 =>
        w_X3_hasSomethingIn p0_now_many r6 (fun r7 =>
        (¬ r7 = 0 →
          ∀ x10 : Int32, x10 = v2 + (-1 : Int32) →
          rec r3 x10) ∧
        (r7 = 0 →
          (post r3)))))))
def w_X9_bare_L6 (p0_net_places : Int32) (p0_net_steps : Int32) (p0_net_putsInto : Nat → Int32) (p0_net_takesFrom : Nat → Int32) (p0_now_many : Nat → Int32) (post : Int32 → Prop) (K : (Int32) → (Int32) → Prop) : Nat → (Int32) → (Int32) → Prop
  | 0, _, _ => False
  | n + 1, v1, v2 => w_X9_bare_L6b p0_net_places p0_net_steps p0_net_putsInto p0_net_takesFrom p0_now_many post K (w_X9_bare_L6 p0_net_places p0_net_steps p0_net_putsInto p0_net_takesFrom p0_now_many post K n) v1 v2
def w_X9_bare (p0_net_places : Int32) (p0_net_steps : Int32) (p0_net_putsInto : Nat → Int32) (p0_net_takesFrom : Nat → Int32) (p0_now_many : Nat → Int32) (post : Int32 → Prop) : Prop :=
  ∃ n : Nat, w_X9_bare_L6 p0_net_places p0_net_steps p0_net_putsInto p0_net_takesFrom p0_now_many post (fun v12 v13 =>
      (post (0 : Int32))) n (0 : Int32) (65536 : Int32)
set_option maxHeartbeats 4000000 in
set_option maxRecDepth 100000 in
theorem c_X9_bare_L6 {p : Program} {l : Launch} {e : Env} {s : State} {m : MethodId} {args : Array Value} {below : List Frame} {meth : Method} {c : Code} {dC : Nat → ClassId} {dI : Nat → Nat → Nat} {A : Nat → Prop} {cI cJ cZ : ClassId} {h_p0 : Nat} {ad_p0 : Nat → Nat} {ad_p0_net : Nat → Nat} {ad_p0_now : Nat → Nat} {p0_goings : Int32} {p0_latestFault : Int32} {p0_net_places : Int32} {p0_net_steps : Int32} {p0_net_coloured : Int32} {p0_net_putsInto : Nat → Int32} {p0_net_takesFrom : Nat → Int32} {p0_now_many : Nat → Int32}  {post : Int32 → Prop} {K : (Int32) → (Int32) → Prop} (E0 : xEnv p s m args meth c cX9_bare (some .int) 3 RX9 wsX9_bare (dC, dI) cI cJ cZ A) (hk : ∀ (v1 : Int32) (v2 : Int32) (H : Heap) (locs : List Loc) (ls : Array Slot), K v1 v2 → va_P (dC, dI) vwCl (wld_X9_bare cI cJ cZ h_p0 ad_p0 ad_p0_net ad_p0_now p0_goings p0_latestFault p0_net_places p0_net_steps p0_net_coloured p0_net_putsInto p0_net_takesFrom p0_now_many) H → va_D A (wld_X9_bare cI cJ cZ h_p0 ad_p0 ad_p0_net ad_p0_now p0_goings p0_latestFault p0_net_places p0_net_steps p0_net_coloured p0_net_putsInto p0_net_takesFrom p0_now_many) → va_S A s.heap H locs → lv_has ls 3 [] → W p l e ({ frames := 22, cells := 0, slots := 0, locals := 585 }) s m args below meth c H locs 0 0 (MQ below (q_X9_bare dC dI cI cJ cZ h_p0 ad_p0 ad_p0_net ad_p0_now p0_goings p0_latestFault p0_net_places p0_net_steps p0_net_coloured p0_net_putsInto p0_net_takesFrom p0_now_many post A) args s 0 0 A) (F0 m 59 ls [])) : ∀ (n : Nat) (v1 : Int32) (v2 : Int32), w_X9_bare_L6 p0_net_places p0_net_steps p0_net_putsInto p0_net_takesFrom p0_now_many post K n v1 v2 → ∀ (H : Heap) (locs : List Loc) (ls : Array Slot), va_P (dC, dI) vwCl (wld_X9_bare cI cJ cZ h_p0 ad_p0 ad_p0_net ad_p0_now p0_goings p0_latestFault p0_net_places p0_net_steps p0_net_coloured p0_net_putsInto p0_net_takesFrom p0_now_many) H → va_D A (wld_X9_bare cI cJ cZ h_p0 ad_p0 ad_p0_net ad_p0_now p0_goings p0_latestFault p0_net_places p0_net_steps p0_net_coloured p0_net_putsInto p0_net_takesFrom p0_now_many) → va_S A s.heap H locs → lv_has ls 3 [(0, .ref h_p0), (1, .int v1), (2, .int v2)] → W p l e ({ frames := 22, cells := 0, slots := 0, locals := 585 }) s m args below meth c H locs 0 0 (MQ below (q_X9_bare dC dI cI cJ cZ h_p0 ad_p0 ad_p0_net ad_p0_now p0_goings p0_latestFault p0_net_places p0_net_steps p0_net_coloured p0_net_putsInto p0_net_takesFrom p0_now_many post A) args s 0 0 A) (F0 m 6 ls []) := by
  obtain ⟨hx, hb, hr, hml, hown, hts, hlocks, hK, hA, n1, n2⟩ := id E0
  have iX3 : ∀ w ∈ u_ws RX3 TX3 2, w ∈ wsX9_bare := fun w h => List.mem_cons_of_mem _ (List.mem_append_right _ h)
  have iX5 : ∀ w ∈ u_ws RX5 TX5 14, w ∈ wsX9_bare := fun w h => List.mem_cons_of_mem _ (List.mem_append_left _ (List.mem_append_right _ h))
  have iX9 : ∀ w ∈ u_ws RX9 TX9 12, w ∈ wsX9_bare := fun w h => List.mem_cons_of_mem _ (List.mem_append_left _ (List.mem_append_left _ (List.mem_append_right _ h)))
  intro n
  induction n with
  | zero => intro v1 v2 hw; exact hw.elim
  | succ n ih =>
    intro v1 v2 hw H locs ls hP hD hS hl
    have hw : w_X9_bare_L6b p0_net_places p0_net_steps p0_net_putsInto p0_net_takesFrom p0_now_many post K (w_X9_bare_L6 p0_net_places p0_net_steps p0_net_putsInto p0_net_takesFrom p0_now_many post K n) v1 v2 := hw
    unfold w_X9_bare_L6b at hw
    refine lv_iload_n hx hb dX9_bare_6 rfl (lv_at hl 2 rfl) ?_
    refine lv_if_le (tgt := 59) hx hb dX9_bare_7 (by decide) (fun c1 => ?_) (fun c2 => ?_)
    · have hw := hw.1 c1
      exact hk _ _ _ _ _ hw hP hD hS (lv_sub hl [] rfl)
    · have hw := hw.2 c2
      refine lv_aload_n hx hb dX9_bare_10 rfl (lv_at hl 0 rfl) ?_
      refine va_get (D := (dC, dI)) (ci := 9) (v := .ref (ad_p0 0)) (C := RX9) (T := TX9) (N := 12) hx hb hts iX9 hown hK hP 0 rfl rfl 0 (by decide) (hts (.fieldLink RX9 10 "NetHouse" "net" "LNetHouse$Net;") (by decide +kernel)) (fun _ h9 => h9) rfl dX9_bare_11 ?_
      refine lv_iconst (v := 0) hx hb dX9_bare_14 (by decide) ?_
      refine lv_iload_n hx hb dX9_bare_15 rfl (lv_at hl 1 rfl) ?_
      refine lv_iconst (v := 0) hx hb dX9_bare_16 (by decide) ?_
      refine lv_aload_n hx hb dX9_bare_17 rfl (lv_at hl 0 rfl) ?_
      refine va_get (D := (dC, dI)) (ci := 9) (v := .ref (ad_p0 0)) (C := RX9) (T := TX9) (N := 12) hx hb hts iX9 hown hK hP 0 rfl rfl 0 (by decide) (hts (.fieldLink RX9 10 "NetHouse" "net" "LNetHouse$Net;") (by decide +kernel)) (fun _ h9 => h9) rfl dX9_bare_18 ?_
      refine va_get (D := (dC, dI)) (ci := 5) (v := .int p0_net_places) (C := RX5) (T := TX5) (N := 14) hx hb hts iX5 hown hK hP 1 rfl rfl 11 (by decide) (hts (.fieldLink RX9 80 "NetHouse$Net" "places" "I") (by decide +kernel)) (fun _ h9 => h9) rfl dX9_bare_21 ?_
      obtain ⟨hPc, hDc⟩ := x_sub (wc := (wld_X9_leastBehind cI cJ cZ (ad_p0 0) ad_p0_net p0_net_places p0_net_steps p0_net_coloured p0_net_putsInto p0_net_takesFrom)) hP hD [1, 2, 3] (n := 6) rfl rfl (by decide +kernel)
      refine x_calli (ws' := fun (u : Unit) => (wld_X9_bare cI cJ cZ h_p0 ad_p0 ad_p0_net ad_p0_now p0_goings p0_latestFault p0_net_places p0_net_steps p0_net_coloured p0_net_putsInto p0_net_takesFrom p0_now_many)) hP hD hS hA [1, 2, 3] [0, 4, 5] [0, 3, 4, 5, 1, 2] (n := 6) (k := 3) rfl (fun _ => rfl) rfl (by decide +kernel) (fun _ => rfl) (va_runS (As := [.ref (ad_p0 0), .int (0 : Int32), .int v1, .int (0 : Int32), .int p0_net_places]) (rest := []) ⟨hx, hb, hml, hown, hts⟩ (c_X9_leastBehind (l := l) (dC := dC) (dI := dI) (cI := cI) (cJ := cJ) (cZ := cZ) (sz := H.size) (h_p0 := (ad_p0 0)) (ad_p0 := ad_p0_net) (p0_places := p0_net_places) (p0_steps := p0_net_steps) (p0_coloured := p0_net_coloured) (p0_putsInto := p0_net_putsInto) (p0_takesFrom := p0_net_takesFrom) hw) (va_cwS 5 hts gX9_bare_X9_leastBehind rfl rfl rfl (by decide +kernel) ⟨Nat.le_of_ble_eq_true rfl, Nat.le_of_ble_eq_true rfl⟩) ⟨xPre_blind, xPre_at hK hPc hDc n1 n2⟩ rfl rfl hl.1 rfl (lv_room (Nat.le_of_ble_eq_true rfl)) dX9_bare_24 ⟨Nat.zero_le _, Nat.zero_le _⟩) (fun r3 u H locs hw hP hD hS => ?_)
      try dsimp only at hw
      have hP : va_P (dC, dI) vwCl (wld_X9_bare cI cJ cZ h_p0 ad_p0 ad_p0_net ad_p0_now p0_goings p0_latestFault p0_net_places p0_net_steps p0_net_coloured p0_net_putsInto p0_net_takesFrom p0_now_many) H := hP
      have hD : va_D A (wld_X9_bare cI cJ cZ h_p0 ad_p0 ad_p0_net ad_p0_now p0_goings p0_latestFault p0_net_places p0_net_steps p0_net_coloured p0_net_putsInto p0_net_takesFrom p0_now_many) := hD
      refine lv_istore_n (lv' := [(1, .int r3), (0, .ref h_p0), (2, .int v2)]) hx hb dX9_bare_27 rfl hl (by decide) rfl (fun ls hl => ?_)
      refine lv_iload_n hx hb dX9_bare_28 rfl (lv_at hl 0 rfl) ?_
      refine lv_if_eq (tgt := 51) hx hb dX9_bare_29 (by decide) (fun c4 => ?_) (fun c5 => ?_)
      · have hw := hw.1 c4
        refine lv_iload_n hx hb dX9_bare_51 rfl (lv_at hl 0 rfl) ?_
        exact x_iret (w1 := fun (u : Unit) => (wld_X9_bare cI cJ cZ h_p0 ad_p0 ad_p0_net ad_p0_now p0_goings p0_latestFault p0_net_places p0_net_steps p0_net_coloured p0_net_putsInto p0_net_takesFrom p0_now_many)) hx hb hr hlocks () hw hP hD hS dX9_bare_52
      · have hw := hw.2 c5
        refine lv_aload_n hx hb dX9_bare_32 rfl (lv_at hl 1 rfl) ?_
        refine va_get (D := (dC, dI)) (ci := 9) (v := .ref (ad_p0 1)) (C := RX9) (T := TX9) (N := 12) hx hb hts iX9 hown hK hP 0 rfl rfl 1 (by decide) (hts (.fieldLink RX9 19 "NetHouse" "now" "LNetHouse$Holding;") (by decide +kernel)) (fun _ h9 => h9) rfl dX9_bare_33 ?_
        refine lv_aload_n hx hb dX9_bare_36 rfl (lv_at hl 1 rfl) ?_
        refine va_get (D := (dC, dI)) (ci := 9) (v := .ref (ad_p0 0)) (C := RX9) (T := TX9) (N := 12) hx hb hts iX9 hown hK hP 0 rfl rfl 0 (by decide) (hts (.fieldLink RX9 10 "NetHouse" "net" "LNetHouse$Net;") (by decide +kernel)) (fun _ h9 => h9) rfl dX9_bare_37 ?_
        refine lv_iload_n hx hb dX9_bare_40 rfl (lv_at hl 0 rfl) ?_
        refine lv_iconst (v := 1) hx hb dX9_bare_41 (by decide) ?_
        obtain ⟨hPc, hDc⟩ := x_sub (wc := (wld_X5_greatestWithin cI cJ cZ (ad_p0 0) ad_p0_net p0_net_places p0_net_steps p0_net_coloured p0_net_putsInto p0_net_takesFrom)) hP hD [1, 2, 3] (n := 6) rfl rfl (by decide +kernel)
        refine x_calli (ws' := fun (u : Unit) => (wld_X9_bare cI cJ cZ h_p0 ad_p0 ad_p0_net ad_p0_now p0_goings p0_latestFault p0_net_places p0_net_steps p0_net_coloured p0_net_putsInto p0_net_takesFrom p0_now_many)) hP hD hS hA [1, 2, 3] [0, 4, 5] [0, 3, 4, 5, 1, 2] (n := 6) (k := 3) rfl (fun _ => rfl) rfl (by decide +kernel) (fun _ => rfl) (va_runV (As := [.int r3, .int (1 : Int32)]) (rest := [.ref (ad_p0 1)]) ⟨hx, hb, hml, hown, hts⟩ (c_X5_greatestWithin (l := l) (dC := dC) (dI := dI) (cI := cI) (cJ := cJ) (cZ := cZ) (sz := H.size) (h_p0 := (ad_p0 0)) (ad_p0 := ad_p0_net) (p0_places := p0_net_places) (p0_steps := p0_net_steps) (p0_coloured := p0_net_coloured) (p0_putsInto := p0_net_putsInto) (p0_takesFrom := p0_net_takesFrom) hw) (cwV 2 hts gX9_bare_X5_greatestWithin rfl rfl rfl (by decide +kernel) ⟨Nat.le_of_ble_eq_true rfl, Nat.le_of_ble_eq_true rfl⟩) ⟨xPre_blind, va_recv hK hP (ci := 5) (q0 := 1) rfl rfl, xPre_at hK hPc hDc n1 n2⟩ rfl rfl hl.1 rfl (lv_room (Nat.le_of_ble_eq_true rfl)) dX9_bare_42 ⟨Nat.zero_le _, Nat.zero_le _⟩) (fun r6 u H locs hw hP hD hS => ?_)
        try dsimp only at hw
        have hP : va_P (dC, dI) vwCl (wld_X9_bare cI cJ cZ h_p0 ad_p0 ad_p0_net ad_p0_now p0_goings p0_latestFault p0_net_places p0_net_steps p0_net_coloured p0_net_putsInto p0_net_takesFrom p0_now_many) H := hP
        have hD : va_D A (wld_X9_bare cI cJ cZ h_p0 ad_p0 ad_p0_net ad_p0_now p0_goings p0_latestFault p0_net_places p0_net_steps p0_net_coloured p0_net_putsInto p0_net_takesFrom p0_now_many) := hD
        obtain ⟨hPc, hDc⟩ := x_sub (wc := (wld_X3_hasSomethingIn cI cJ cZ (ad_p0 1) ad_p0_now p0_now_many)) hP hD [4, 5] (n := 6) rfl rfl (by decide +kernel)
        refine x_calli (ws' := fun (u : Unit) => (wld_X9_bare cI cJ cZ h_p0 ad_p0 ad_p0_net ad_p0_now p0_goings p0_latestFault p0_net_places p0_net_steps p0_net_coloured p0_net_putsInto p0_net_takesFrom p0_now_many)) hP hD hS hA [4, 5] [0, 1, 2, 3] [0, 1, 2, 3, 4, 5] (n := 6) (k := 2) rfl (fun _ => rfl) rfl (by decide +kernel) (fun _ => rfl) (va_runV (As := [.int r6]) (rest := []) ⟨hx, hb, hml, hown, hts⟩ (c_X3_hasSomethingIn (l := l) (dC := dC) (dI := dI) (cI := cI) (cJ := cJ) (cZ := cZ) (sz := H.size) (h_p0 := (ad_p0 1)) (ad_p0 := ad_p0_now) (p0_many := p0_now_many) hw) (cwV 1 hts gX9_bare_X3_hasSomethingIn rfl rfl rfl (by decide +kernel) ⟨Nat.le_of_ble_eq_true rfl, Nat.le_of_ble_eq_true rfl⟩) ⟨xPre_blind, va_recv hK hP (ci := 3) (q0 := 4) rfl rfl, xPre_at hK hPc hDc n1 n2⟩ rfl rfl hl.1 rfl (lv_room (Nat.le_of_ble_eq_true rfl)) dX9_bare_45 ⟨Nat.zero_le _, Nat.zero_le _⟩) (fun r7 u H locs hw hP hD hS => ?_)
        try dsimp only at hw
        have hP : va_P (dC, dI) vwCl (wld_X9_bare cI cJ cZ h_p0 ad_p0 ad_p0_net ad_p0_now p0_goings p0_latestFault p0_net_places p0_net_steps p0_net_coloured p0_net_putsInto p0_net_takesFrom p0_now_many) H := hP
        have hD : va_D A (wld_X9_bare cI cJ cZ h_p0 ad_p0 ad_p0_net ad_p0_now p0_goings p0_latestFault p0_net_places p0_net_steps p0_net_coloured p0_net_putsInto p0_net_takesFrom p0_now_many) := hD
        refine lv_if_ne (tgt := 53) hx hb dX9_bare_48 (by decide) (fun c8 => ?_) (fun c9 => ?_)
        · have hw := hw.1 c8
          obtain ⟨x10, ex10⟩ : ∃ y : Int32, y = v2 + (-1 : Int32) := ⟨_, rfl⟩
          have hw := hw x10 ex10
          refine lv_iinc (v := x10) (lv' := [(2, .int x10), (1, .int r3), (0, .ref h_p0)]) hx hb dX9_bare_53 hl (k := 2) rfl (by rw [ex10]; rfl) (by decide) rfl (fun ls hl => ?_)
          refine lv_goto (tgt := 6) hx hb dX9_bare_56 (by decide) ?_
          exact ih _ _ hw _ _ _ hP hD hS (lv_sub hl [2, 1, 0] rfl)
        · have hw := hw.2 c9
          refine lv_iload_n hx hb dX9_bare_51 rfl (lv_at hl 0 rfl) ?_
          exact x_iret (w1 := fun (u : Unit) => (wld_X9_bare cI cJ cZ h_p0 ad_p0 ad_p0_net ad_p0_now p0_goings p0_latestFault p0_net_places p0_net_steps p0_net_coloured p0_net_putsInto p0_net_takesFrom p0_now_many)) hx hb hr hlocks () hw hP hD hS dX9_bare_52
set_option maxHeartbeats 4000000 in
set_option maxRecDepth 100000 in
theorem c_X9_bare {l : Launch} {dC : Nat → ClassId} {dI : Nat → Nat → Nat} {sz : Nat} {cI cJ cZ : ClassId} {h_p0 : Nat} {ad_p0 : Nat → Nat} {ad_p0_net : Nat → Nat} {ad_p0_now : Nat → Nat} {p0_goings : Int32} {p0_latestFault : Int32} {p0_net_places : Int32} {p0_net_steps : Int32} {p0_net_coloured : Int32} {p0_net_putsInto : Nat → Int32} {p0_net_takesFrom : Nat → Int32} {p0_now_many : Nat → Int32}  {post : Int32 → Prop} (hw : w_X9_bare p0_net_places p0_net_steps p0_net_putsInto p0_net_takesFrom p0_now_many post) : Met l yX9_bare wsX9_bare ({ frames := 22, cells := 0, slots := 0, locals := 585 }) (va_Pc [.ref h_p0] (xPre (dC, dI) cI cJ cZ (wld_X9_bare cI cJ cZ h_p0 ad_p0 ad_p0_net ad_p0_now p0_goings p0_latestFault p0_net_places p0_net_steps p0_net_coloured p0_net_putsInto p0_net_takesFrom p0_now_many) sz)) (q_X9_bare dC dI cI cJ cZ h_p0 ad_p0 ad_p0_net ad_p0_now p0_goings p0_latestFault p0_net_places p0_net_steps p0_net_coloured p0_net_putsInto p0_net_takesFrom p0_now_many post (va_A (wld_X9_bare cI cJ cZ h_p0 ad_p0 ad_p0_net ad_p0_now p0_goings p0_latestFault p0_net_places p0_net_steps p0_net_coloured p0_net_putsInto p0_net_takesFrom p0_now_many) sz)) 0 0 (va_A (wld_X9_bare cI cJ cZ h_p0 ad_p0 ad_p0_net ad_p0_now p0_goings p0_latestFault p0_net_places p0_net_steps p0_net_coloured p0_net_putsInto p0_net_takesFrom p0_now_many) sz) := by
  refine x_met (cc := cX9_bare) (maxL := 3) (ret := (some .int)) (own := RX9) (Qc := fun A => (q_X9_bare dC dI cI cJ cZ h_p0 ad_p0 ad_p0_net ad_p0_now p0_goings p0_latestFault p0_net_places p0_net_steps p0_net_coloured p0_net_putsInto p0_net_takesFrom p0_now_many post A)) (by decide) rfl rfl (Nat.le_of_ble_eq_true rfl) ?_
  intro p e s m args below meth c A ls E0 hP hD hS hl
  obtain ⟨hx, hb, hr, hml, hown, hts, hlocks, hK, hA, n1, n2⟩ := id E0
  have iX3 : ∀ w ∈ u_ws RX3 TX3 2, w ∈ wsX9_bare := fun w h => List.mem_cons_of_mem _ (List.mem_append_right _ h)
  have iX5 : ∀ w ∈ u_ws RX5 TX5 14, w ∈ wsX9_bare := fun w h => List.mem_cons_of_mem _ (List.mem_append_left _ (List.mem_append_right _ h))
  have iX9 : ∀ w ∈ u_ws RX9 TX9 12, w ∈ wsX9_bare := fun w h => List.mem_cons_of_mem _ (List.mem_append_left _ (List.mem_append_left _ (List.mem_append_right _ h)))
  have hS0 := hS
  have hl : lv_has ls 3 [(0, .ref h_p0)] := hl
  unfold w_X9_bare at hw
  obtain ⟨H, hH⟩ : ∃ H, H = s.heap := ⟨_, rfl⟩
  have hS : va_S A s.heap H [] := by rw [hH]; exact hS
  have hP : va_P (dC, dI) vwCl (wld_X9_bare cI cJ cZ h_p0 ad_p0 ad_p0_net ad_p0_now p0_goings p0_latestFault p0_net_places p0_net_steps p0_net_coloured p0_net_putsInto p0_net_takesFrom p0_now_many) H := by rw [hH]; exact hP
  suffices hG : W p l e ({ frames := 22, cells := 0, slots := 0, locals := 585 }) s m args below meth c H [] 0 0 (MQ below (q_X9_bare dC dI cI cJ cZ h_p0 ad_p0 ad_p0_net ad_p0_now p0_goings p0_latestFault p0_net_places p0_net_steps p0_net_coloured p0_net_putsInto p0_net_takesFrom p0_now_many post A) args s 0 0 A) (F0 m 0 ls []) by rw [hH] at hG; exact hG
  clear hH
  refine lv_iconst (v := 0) hx hb dX9_bare_0 (by decide) ?_
  refine lv_istore_n (lv' := [(1, .int (0 : Int32)), (0, .ref h_p0)]) hx hb dX9_bare_1 rfl hl (by decide) rfl (fun ls hl => ?_)
  refine lv_ldcw (v := 65536) hx hb hown (hts (.constant RX9 374 (65536)) (by decide +kernel)) dX9_bare_2 ?_
  refine lv_istore_n (lv' := [(2, .int (65536 : Int32)), (1, .int (0 : Int32)), (0, .ref h_p0)]) hx hb dX9_bare_5 rfl hl (by decide) rfl (fun ls hl => ?_)
  obtain ⟨n11, hw⟩ := hw
  refine c_X9_bare_L6 (l := l)  E0 ?_ n11 _ _ hw _ _ _ hP hD hS (lv_sub hl [2, 1, 0] rfl)
  · intro v12 v13 H locs ls hw hP hD hS hl
    have hP : va_P (dC, dI) vwCl (wld_X9_bare cI cJ cZ h_p0 ad_p0 ad_p0_net ad_p0_now p0_goings p0_latestFault p0_net_places p0_net_steps p0_net_coloured p0_net_putsInto p0_net_takesFrom p0_now_many) H := hP
    have hD : va_D A (wld_X9_bare cI cJ cZ h_p0 ad_p0 ad_p0_net ad_p0_now p0_goings p0_latestFault p0_net_places p0_net_steps p0_net_coloured p0_net_putsInto p0_net_takesFrom p0_now_many) := hD
    refine lv_iconst (v := 0) hx hb dX9_bare_59 (by decide) ?_
    exact x_iret (w1 := fun (u : Unit) => (wld_X9_bare cI cJ cZ h_p0 ad_p0 ad_p0_net ad_p0_now p0_goings p0_latestFault p0_net_places p0_net_steps p0_net_coloured p0_net_putsInto p0_net_takesFrom p0_now_many)) hx hb hr hlocks () hw hP hD hS dX9_bare_60
abbrev wld_X9_count (cI cJ cZ : ClassId) (h_p0 : Nat) (ad_p0 : Nat → Nat) (ad_p0_growth : Nat → Nat) (ad_p0_growth_nodes : Nat → Nat) (ad_p0_hand : Nat → Nat) (ad_p0_net : Nat → Nat) (ad_p0_ofPlaces : Nat → Nat) (ad_p0_ofSteps : Nat → Nat) (ad_p0_past : Nat → Nat) (ad_p0_reach : Nat → Nat) (ad_p0_reach_all : Nat → Nat) (ad_p0_told : Nat → Nat) (p0_goings : Int32) (p0_latestFault : Int32) (p0_growth_made : Int32) (p0_growth_endlessNode : Int32) (p0_growth_endlessBy : Int32) (p0_growth_nodes_width : Int32) (p0_growth_nodes_size : Int32) (p0_hand_rowSize : Int32) (p0_hand_waySize : Int32) (p0_net_places : Int32) (p0_net_steps : Int32) (p0_net_coloured : Int32) (p0_ofPlaces_rows : Int32) (p0_ofPlaces_size : Int32) (p0_ofSteps_rows : Int32) (p0_ofSteps_size : Int32) (p0_past_size : Int32) (p0_past_end : Int32) (p0_reach_made : Int32) (p0_reach_turned : Int32) (p0_reach_steps : Int32) (p0_reach_all_width : Int32) (p0_reach_all_size : Int32) (p0_told_size : Int32) : va_W := [(h_p0, .inr (9, [.ref (ad_p0 0), .ref (ad_p0 1), .ref (ad_p0 2), .ref (ad_p0 3), .ref (ad_p0 4), .ref (ad_p0 5), .ref (ad_p0 6), .ref (ad_p0 7), .ref (ad_p0 8), .ref (ad_p0 9), .int p0_goings, .int p0_latestFault])), ((ad_p0 6), .inr (8, [.ref (ad_p0_growth 0), .ref (ad_p0_growth 1), .ref (ad_p0_growth 2), .int p0_growth_made, .int p0_growth_endlessNode, .int p0_growth_endlessBy])), ((ad_p0_growth 0), .inr (4, [.ref (ad_p0_growth_nodes 0), .ref (ad_p0_growth_nodes 1), .ref (ad_p0_growth_nodes 2), .ref (ad_p0_growth_nodes 3), .ref (ad_p0_growth_nodes 4), .int p0_growth_nodes_width, .int p0_growth_nodes_size])), ((ad_p0 4), .inr (2, [.ref (ad_p0_hand 0), .ref (ad_p0_hand 1), .int p0_hand_rowSize, .int p0_hand_waySize])), ((ad_p0 0), .inr (5, [.ref (ad_p0_net 0), .ref (ad_p0_net 1), .ref (ad_p0_net 2), .ref (ad_p0_net 3), .ref (ad_p0_net 4), .ref (ad_p0_net 5), .ref (ad_p0_net 6), .ref (ad_p0_net 7), .ref (ad_p0_net 8), .ref (ad_p0_net 9), .ref (ad_p0_net 10), .int p0_net_places, .int p0_net_steps, .int p0_net_coloured])), ((ad_p0 7), .inr (0, [.ref (ad_p0_ofPlaces 0), .ref (ad_p0_ofPlaces 1), .ref (ad_p0_ofPlaces 2), .int p0_ofPlaces_rows, .int p0_ofPlaces_size])), ((ad_p0 8), .inr (0, [.ref (ad_p0_ofSteps 0), .ref (ad_p0_ofSteps 1), .ref (ad_p0_ofSteps 2), .int p0_ofSteps_rows, .int p0_ofSteps_size])), ((ad_p0 3), .inr (6, [.ref (ad_p0_past 0), .ref (ad_p0_past 1), .int p0_past_size, .int p0_past_end])), ((ad_p0 5), .inr (1, [.ref (ad_p0_reach 0), .ref (ad_p0_reach 1), .ref (ad_p0_reach 2), .ref (ad_p0_reach 3), .ref (ad_p0_reach 4), .ref (ad_p0_reach 5), .ref (ad_p0_reach 6), .ref (ad_p0_reach 7), .int p0_reach_made, .int p0_reach_turned, .int p0_reach_steps])), ((ad_p0_reach 0), .inr (4, [.ref (ad_p0_reach_all 0), .ref (ad_p0_reach_all 1), .ref (ad_p0_reach_all 2), .ref (ad_p0_reach_all 3), .ref (ad_p0_reach_all 4), .int p0_reach_all_width, .int p0_reach_all_size])), ((ad_p0 9), .inr (7, [.ref (ad_p0_told 0), .int p0_told_size]))]
abbrev q_X9_count (dC : Nat → ClassId) (dI : Nat → Nat → Nat) (cI cJ cZ : ClassId) (h_p0 : Nat) (ad_p0 : Nat → Nat) (ad_p0_growth : Nat → Nat) (ad_p0_growth_nodes : Nat → Nat) (ad_p0_hand : Nat → Nat) (ad_p0_net : Nat → Nat) (ad_p0_ofPlaces : Nat → Nat) (ad_p0_ofSteps : Nat → Nat) (ad_p0_past : Nat → Nat) (ad_p0_reach : Nat → Nat) (ad_p0_reach_all : Nat → Nat) (ad_p0_told : Nat → Nat) (p0_goings : Int32) (p0_latestFault : Int32) (p0_growth_made : Int32) (p0_growth_endlessNode : Int32) (p0_growth_endlessBy : Int32) (p0_growth_nodes_width : Int32) (p0_growth_nodes_size : Int32) (p0_hand_rowSize : Int32) (p0_hand_waySize : Int32) (p0_net_places : Int32) (p0_net_steps : Int32) (p0_net_coloured : Int32) (p0_ofPlaces_rows : Int32) (p0_ofPlaces_size : Int32) (p0_ofSteps_rows : Int32) (p0_ofSteps_size : Int32) (p0_past_size : Int32) (p0_past_end : Int32) (p0_reach_made : Int32) (p0_reach_turned : Int32) (p0_reach_steps : Int32) (p0_reach_all_width : Int32) (p0_reach_all_size : Int32) (p0_told_size : Int32) (post : Int32 → Prop) (A : Nat → Prop) : Array Value → State → Outcome → State → Prop := va_Qi (fun r (u : Unit) => post r ) (fun (u : Unit) t => xPost (dC, dI) A (wld_X9_count cI cJ cZ h_p0 ad_p0 ad_p0_growth ad_p0_growth_nodes ad_p0_hand ad_p0_net ad_p0_ofPlaces ad_p0_ofSteps ad_p0_past ad_p0_reach ad_p0_reach_all ad_p0_told p0_goings p0_latestFault p0_growth_made p0_growth_endlessNode p0_growth_endlessBy p0_growth_nodes_width p0_growth_nodes_size p0_hand_rowSize p0_hand_waySize p0_net_places p0_net_steps p0_net_coloured p0_ofPlaces_rows p0_ofPlaces_size p0_ofSteps_rows p0_ofSteps_size p0_past_size p0_past_end p0_reach_made p0_reach_turned p0_reach_steps p0_reach_all_width p0_reach_all_size p0_told_size) t) A
def w_X9_count (p0_goings : Int32) (p0_growth_made : Int32) (p0_growth_nodes_size : Int32) (p0_hand_rowSize : Int32) (p0_hand_waySize : Int32) (p0_net_places : Int32) (p0_net_steps : Int32) (p0_ofPlaces_size : Int32) (p0_ofSteps_size : Int32) (p0_past_size : Int32) (p0_reach_all_size : Int32) (p0_reach_made : Int32) (p0_told_size : Int32) (a1 : Int32) (post : Int32 → Prop) : Prop :=
  ((a1.toInt < 0 ∨ 10 < a1.toInt) →
    (post (-2000000001 : Int32))) ∧
  (a1 = (0 : Int32) →
    (post p0_net_places)) ∧
  (a1 = (1 : Int32) →
    (post p0_net_steps)) ∧
  (a1 = (2 : Int32) →
    (post p0_past_size)) ∧
  (a1 = (3 : Int32) →
    (post p0_goings)) ∧
  (a1 = (4 : Int32) →
    (post p0_hand_rowSize)) ∧
  (a1 = (5 : Int32) →
    (post p0_hand_waySize)) ∧
  (a1 = (6 : Int32) →
    (p0_reach_made = 0 →
      (post (0 : Int32))) ∧
    (¬ p0_reach_made = 0 →
      (post p0_reach_all_size))) ∧
  (a1 = (7 : Int32) →
    (p0_growth_made = 0 →
      (post (0 : Int32))) ∧
    (¬ p0_growth_made = 0 →
      (post p0_growth_nodes_size))) ∧
  (a1 = (8 : Int32) →
    (post p0_ofPlaces_size)) ∧
  (a1 = (9 : Int32) →
    (post p0_ofSteps_size)) ∧
  (a1 = (10 : Int32) →
    (post p0_told_size))
set_option maxHeartbeats 4000000 in
set_option maxRecDepth 100000 in
theorem c_X9_count {l : Launch} {dC : Nat → ClassId} {dI : Nat → Nat → Nat} {sz : Nat} {cI cJ cZ : ClassId} {h_p0 : Nat} {ad_p0 : Nat → Nat} {ad_p0_growth : Nat → Nat} {ad_p0_growth_nodes : Nat → Nat} {ad_p0_hand : Nat → Nat} {ad_p0_net : Nat → Nat} {ad_p0_ofPlaces : Nat → Nat} {ad_p0_ofSteps : Nat → Nat} {ad_p0_past : Nat → Nat} {ad_p0_reach : Nat → Nat} {ad_p0_reach_all : Nat → Nat} {ad_p0_told : Nat → Nat} {p0_goings : Int32} {p0_latestFault : Int32} {p0_growth_made : Int32} {p0_growth_endlessNode : Int32} {p0_growth_endlessBy : Int32} {p0_growth_nodes_width : Int32} {p0_growth_nodes_size : Int32} {p0_hand_rowSize : Int32} {p0_hand_waySize : Int32} {p0_net_places : Int32} {p0_net_steps : Int32} {p0_net_coloured : Int32} {p0_ofPlaces_rows : Int32} {p0_ofPlaces_size : Int32} {p0_ofSteps_rows : Int32} {p0_ofSteps_size : Int32} {p0_past_size : Int32} {p0_past_end : Int32} {p0_reach_made : Int32} {p0_reach_turned : Int32} {p0_reach_steps : Int32} {p0_reach_all_width : Int32} {p0_reach_all_size : Int32} {p0_told_size : Int32} {a1 : Int32} {post : Int32 → Prop} (hw : w_X9_count p0_goings p0_growth_made p0_growth_nodes_size p0_hand_rowSize p0_hand_waySize p0_net_places p0_net_steps p0_ofPlaces_size p0_ofSteps_size p0_past_size p0_reach_all_size p0_reach_made p0_told_size a1 post) : Met l yX9_count wsX9_count ({ frames := 0, cells := 0, slots := 0, locals := 0 }) (va_Pc [.ref h_p0, .int a1] (xPre (dC, dI) cI cJ cZ (wld_X9_count cI cJ cZ h_p0 ad_p0 ad_p0_growth ad_p0_growth_nodes ad_p0_hand ad_p0_net ad_p0_ofPlaces ad_p0_ofSteps ad_p0_past ad_p0_reach ad_p0_reach_all ad_p0_told p0_goings p0_latestFault p0_growth_made p0_growth_endlessNode p0_growth_endlessBy p0_growth_nodes_width p0_growth_nodes_size p0_hand_rowSize p0_hand_waySize p0_net_places p0_net_steps p0_net_coloured p0_ofPlaces_rows p0_ofPlaces_size p0_ofSteps_rows p0_ofSteps_size p0_past_size p0_past_end p0_reach_made p0_reach_turned p0_reach_steps p0_reach_all_width p0_reach_all_size p0_told_size) sz)) (q_X9_count dC dI cI cJ cZ h_p0 ad_p0 ad_p0_growth ad_p0_growth_nodes ad_p0_hand ad_p0_net ad_p0_ofPlaces ad_p0_ofSteps ad_p0_past ad_p0_reach ad_p0_reach_all ad_p0_told p0_goings p0_latestFault p0_growth_made p0_growth_endlessNode p0_growth_endlessBy p0_growth_nodes_width p0_growth_nodes_size p0_hand_rowSize p0_hand_waySize p0_net_places p0_net_steps p0_net_coloured p0_ofPlaces_rows p0_ofPlaces_size p0_ofSteps_rows p0_ofSteps_size p0_past_size p0_past_end p0_reach_made p0_reach_turned p0_reach_steps p0_reach_all_width p0_reach_all_size p0_told_size post (va_A (wld_X9_count cI cJ cZ h_p0 ad_p0 ad_p0_growth ad_p0_growth_nodes ad_p0_hand ad_p0_net ad_p0_ofPlaces ad_p0_ofSteps ad_p0_past ad_p0_reach ad_p0_reach_all ad_p0_told p0_goings p0_latestFault p0_growth_made p0_growth_endlessNode p0_growth_endlessBy p0_growth_nodes_width p0_growth_nodes_size p0_hand_rowSize p0_hand_waySize p0_net_places p0_net_steps p0_net_coloured p0_ofPlaces_rows p0_ofPlaces_size p0_ofSteps_rows p0_ofSteps_size p0_past_size p0_past_end p0_reach_made p0_reach_turned p0_reach_steps p0_reach_all_width p0_reach_all_size p0_told_size) sz)) 0 0 (va_A (wld_X9_count cI cJ cZ h_p0 ad_p0 ad_p0_growth ad_p0_growth_nodes ad_p0_hand ad_p0_net ad_p0_ofPlaces ad_p0_ofSteps ad_p0_past ad_p0_reach ad_p0_reach_all ad_p0_told p0_goings p0_latestFault p0_growth_made p0_growth_endlessNode p0_growth_endlessBy p0_growth_nodes_width p0_growth_nodes_size p0_hand_rowSize p0_hand_waySize p0_net_places p0_net_steps p0_net_coloured p0_ofPlaces_rows p0_ofPlaces_size p0_ofSteps_rows p0_ofSteps_size p0_past_size p0_past_end p0_reach_made p0_reach_turned p0_reach_steps p0_reach_all_width p0_reach_all_size p0_told_size) sz) := by
  refine x_met (cc := cX9_count) (maxL := 2) (ret := (some .int)) (own := RX9) (Qc := fun A => (q_X9_count dC dI cI cJ cZ h_p0 ad_p0 ad_p0_growth ad_p0_growth_nodes ad_p0_hand ad_p0_net ad_p0_ofPlaces ad_p0_ofSteps ad_p0_past ad_p0_reach ad_p0_reach_all ad_p0_told p0_goings p0_latestFault p0_growth_made p0_growth_endlessNode p0_growth_endlessBy p0_growth_nodes_width p0_growth_nodes_size p0_hand_rowSize p0_hand_waySize p0_net_places p0_net_steps p0_net_coloured p0_ofPlaces_rows p0_ofPlaces_size p0_ofSteps_rows p0_ofSteps_size p0_past_size p0_past_end p0_reach_made p0_reach_turned p0_reach_steps p0_reach_all_width p0_reach_all_size p0_told_size post A)) (by decide) rfl rfl (Nat.le_of_ble_eq_true rfl) ?_
  intro p e s m args below meth c A ls E0 hP hD hS hl
  obtain ⟨hx, hb, hr, hml, hown, hts, hlocks, hK, hA, n1, n2⟩ := id E0
  have iX0 : ∀ w ∈ u_ws RX0 TX0 5, w ∈ wsX9_count := fun w h => List.mem_cons_of_mem _ (List.mem_append_left _ (List.mem_append_right _ h))
  have iX1 : ∀ w ∈ u_ws RX1 TX1 11, w ∈ wsX9_count := fun w h => List.mem_cons_of_mem _ (List.mem_append_left _ (List.mem_append_left _ (List.mem_append_left _ (List.mem_append_left _ (List.mem_append_right _ h)))))
  have iX2 : ∀ w ∈ u_ws RX2 TX2 4, w ∈ wsX9_count := fun w h => List.mem_cons_of_mem _ (List.mem_append_left _ (List.mem_append_left _ (List.mem_append_left _ (List.mem_append_left _ (List.mem_append_left _ (List.mem_append_right _ h))))))
  have iX4 : ∀ w ∈ u_ws RX4 TX4 7, w ∈ wsX9_count := fun w h => List.mem_cons_of_mem _ (List.mem_append_left _ (List.mem_append_left _ (List.mem_append_left _ (List.mem_append_right _ h))))
  have iX5 : ∀ w ∈ u_ws RX5 TX5 14, w ∈ wsX9_count := fun w h => List.mem_cons_of_mem _ (List.mem_append_left _ (List.mem_append_left _ (List.mem_append_left _ (List.mem_append_left _ (List.mem_append_left _ (List.mem_append_left _ (List.mem_append_left _ (List.mem_append_right _ h))))))))
  have iX6 : ∀ w ∈ u_ws RX6 TX6 4, w ∈ wsX9_count := fun w h => List.mem_cons_of_mem _ (List.mem_append_left _ (List.mem_append_left _ (List.mem_append_left _ (List.mem_append_left _ (List.mem_append_left _ (List.mem_append_left _ (List.mem_append_right _ h)))))))
  have iX7 : ∀ w ∈ u_ws RX7 TX7 2, w ∈ wsX9_count := fun w h => List.mem_cons_of_mem _ (List.mem_append_right _ h)
  have iX8 : ∀ w ∈ u_ws RX8 TX8 6, w ∈ wsX9_count := fun w h => List.mem_cons_of_mem _ (List.mem_append_left _ (List.mem_append_left _ (List.mem_append_right _ h)))
  have iX9 : ∀ w ∈ u_ws RX9 TX9 12, w ∈ wsX9_count := fun w h => List.mem_cons_of_mem _ (List.mem_append_left _ (List.mem_append_left _ (List.mem_append_left _ (List.mem_append_left _ (List.mem_append_left _ (List.mem_append_left _ (List.mem_append_left _ (List.mem_append_left _ (List.mem_append_right _ h)))))))))
  have hS0 := hS
  have hl : lv_has ls 2 [(0, .ref h_p0), (1, .int a1)] := hl
  unfold w_X9_count at hw
  obtain ⟨H, hH⟩ : ∃ H, H = s.heap := ⟨_, rfl⟩
  have hS : va_S A s.heap H [] := by rw [hH]; exact hS
  have hP : va_P (dC, dI) vwCl (wld_X9_count cI cJ cZ h_p0 ad_p0 ad_p0_growth ad_p0_growth_nodes ad_p0_hand ad_p0_net ad_p0_ofPlaces ad_p0_ofSteps ad_p0_past ad_p0_reach ad_p0_reach_all ad_p0_told p0_goings p0_latestFault p0_growth_made p0_growth_endlessNode p0_growth_endlessBy p0_growth_nodes_width p0_growth_nodes_size p0_hand_rowSize p0_hand_waySize p0_net_places p0_net_steps p0_net_coloured p0_ofPlaces_rows p0_ofPlaces_size p0_ofSteps_rows p0_ofSteps_size p0_past_size p0_past_end p0_reach_made p0_reach_turned p0_reach_steps p0_reach_all_width p0_reach_all_size p0_told_size) H := by rw [hH]; exact hP
  suffices hG : W p l e ({ frames := 0, cells := 0, slots := 0, locals := 0 }) s m args below meth c H [] 0 0 (MQ below (q_X9_count dC dI cI cJ cZ h_p0 ad_p0 ad_p0_growth ad_p0_growth_nodes ad_p0_hand ad_p0_net ad_p0_ofPlaces ad_p0_ofSteps ad_p0_past ad_p0_reach ad_p0_reach_all ad_p0_told p0_goings p0_latestFault p0_growth_made p0_growth_endlessNode p0_growth_endlessBy p0_growth_nodes_width p0_growth_nodes_size p0_hand_rowSize p0_hand_waySize p0_net_places p0_net_steps p0_net_coloured p0_ofPlaces_rows p0_ofPlaces_size p0_ofSteps_rows p0_ofSteps_size p0_past_size p0_past_end p0_reach_made p0_reach_turned p0_reach_steps p0_reach_all_width p0_reach_all_size p0_told_size post A) args s 0 0 A) (F0 m 0 ls []) by rw [hH] at hG; exact hG
  clear hH
  refine lv_iload_n hx hb dX9_count_0 rfl (lv_at hl 1 rfl) ?_
  by_cases hsw : a1.toInt < 0 ∨ 10 < a1.toInt
  · have hw := hw.1 hsw
    refine lv_tableOut (tgt := 179) hx hb dX9_count_1 hsw (by decide) ?_
    refine lv_ldc (v := -2000000001) hx hb hown (hts (.constant RX9 79 (-2000000001)) (by decide +kernel)) dX9_count_179 ?_
    exact x_iret (w1 := fun (u : Unit) => (wld_X9_count cI cJ cZ h_p0 ad_p0 ad_p0_growth ad_p0_growth_nodes ad_p0_hand ad_p0_net ad_p0_ofPlaces ad_p0_ofSteps ad_p0_past ad_p0_reach ad_p0_reach_all ad_p0_told p0_goings p0_latestFault p0_growth_made p0_growth_endlessNode p0_growth_endlessBy p0_growth_nodes_width p0_growth_nodes_size p0_hand_rowSize p0_hand_waySize p0_net_places p0_net_steps p0_net_coloured p0_ofPlaces_rows p0_ofPlaces_size p0_ofSteps_rows p0_ofSteps_size p0_past_size p0_past_end p0_reach_made p0_reach_turned p0_reach_steps p0_reach_all_width p0_reach_all_size p0_told_size)) hx hb hr hlocks () hw hP hD hS dX9_count_181
  · have hw := hw.2
    have hsw1 : ¬ a1.toInt < 0 := fun h => hsw (Or.inl h)
    have hsw2 : ¬ 10 < a1.toInt := fun h => hsw (Or.inr h)
    by_cases hc0 : a1 = (0 : Int32)
    · have hw := hw.1 hc0
      refine lv_tableIn (tgt := 60) hx hb dX9_count_1 hsw1 hsw2 (by rw [hc0]; rfl) (by decide) ?_
      refine lv_aload_n hx hb dX9_count_60 rfl (lv_at hl 0 rfl) ?_
      refine va_get (D := (dC, dI)) (ci := 9) (v := .ref (ad_p0 0)) (C := RX9) (T := TX9) (N := 12) hx hb hts iX9 hown hK hP 0 rfl rfl 0 (by decide) (hts (.fieldLink RX9 10 "NetHouse" "net" "LNetHouse$Net;") (by decide +kernel)) (fun _ h9 => h9) rfl dX9_count_61 ?_
      refine va_get (D := (dC, dI)) (ci := 5) (v := .int p0_net_places) (C := RX5) (T := TX5) (N := 14) hx hb hts iX5 hown hK hP 4 rfl rfl 11 (by decide) (hts (.fieldLink RX9 80 "NetHouse$Net" "places" "I") (by decide +kernel)) (fun _ h9 => h9) rfl dX9_count_64 ?_
      exact x_iret (w1 := fun (u : Unit) => (wld_X9_count cI cJ cZ h_p0 ad_p0 ad_p0_growth ad_p0_growth_nodes ad_p0_hand ad_p0_net ad_p0_ofPlaces ad_p0_ofSteps ad_p0_past ad_p0_reach ad_p0_reach_all ad_p0_told p0_goings p0_latestFault p0_growth_made p0_growth_endlessNode p0_growth_endlessBy p0_growth_nodes_width p0_growth_nodes_size p0_hand_rowSize p0_hand_waySize p0_net_places p0_net_steps p0_net_coloured p0_ofPlaces_rows p0_ofPlaces_size p0_ofSteps_rows p0_ofSteps_size p0_past_size p0_past_end p0_reach_made p0_reach_turned p0_reach_steps p0_reach_all_width p0_reach_all_size p0_told_size)) hx hb hr hlocks () hw hP hD hS dX9_count_67
    have hw := hw.2
    by_cases hc1 : a1 = (1 : Int32)
    · have hw := hw.1 hc1
      refine lv_tableIn (tgt := 68) hx hb dX9_count_1 hsw1 hsw2 (by rw [hc1]; rfl) (by decide) ?_
      refine lv_aload_n hx hb dX9_count_68 rfl (lv_at hl 0 rfl) ?_
      refine va_get (D := (dC, dI)) (ci := 9) (v := .ref (ad_p0 0)) (C := RX9) (T := TX9) (N := 12) hx hb hts iX9 hown hK hP 0 rfl rfl 0 (by decide) (hts (.fieldLink RX9 10 "NetHouse" "net" "LNetHouse$Net;") (by decide +kernel)) (fun _ h9 => h9) rfl dX9_count_69 ?_
      refine va_get (D := (dC, dI)) (ci := 5) (v := .int p0_net_steps) (C := RX5) (T := TX5) (N := 14) hx hb hts iX5 hown hK hP 4 rfl rfl 12 (by decide) (hts (.fieldLink RX9 91 "NetHouse$Net" "steps" "I") (by decide +kernel)) (fun _ h9 => h9) rfl dX9_count_72 ?_
      exact x_iret (w1 := fun (u : Unit) => (wld_X9_count cI cJ cZ h_p0 ad_p0 ad_p0_growth ad_p0_growth_nodes ad_p0_hand ad_p0_net ad_p0_ofPlaces ad_p0_ofSteps ad_p0_past ad_p0_reach ad_p0_reach_all ad_p0_told p0_goings p0_latestFault p0_growth_made p0_growth_endlessNode p0_growth_endlessBy p0_growth_nodes_width p0_growth_nodes_size p0_hand_rowSize p0_hand_waySize p0_net_places p0_net_steps p0_net_coloured p0_ofPlaces_rows p0_ofPlaces_size p0_ofSteps_rows p0_ofSteps_size p0_past_size p0_past_end p0_reach_made p0_reach_turned p0_reach_steps p0_reach_all_width p0_reach_all_size p0_told_size)) hx hb hr hlocks () hw hP hD hS dX9_count_75
    have hw := hw.2
    by_cases hc2 : a1 = (2 : Int32)
    · have hw := hw.1 hc2
      refine lv_tableIn (tgt := 76) hx hb dX9_count_1 hsw1 hsw2 (by rw [hc2]; rfl) (by decide) ?_
      refine lv_aload_n hx hb dX9_count_76 rfl (lv_at hl 0 rfl) ?_
      refine va_get (D := (dC, dI)) (ci := 9) (v := .ref (ad_p0 3)) (C := RX9) (T := TX9) (N := 12) hx hb hts iX9 hown hK hP 0 rfl rfl 3 (by decide) (hts (.fieldLink RX9 29 "NetHouse" "past" "LNetHouse$Past;") (by decide +kernel)) (fun _ h9 => h9) rfl dX9_count_77 ?_
      refine va_get (D := (dC, dI)) (ci := 6) (v := .int p0_past_size) (C := RX6) (T := TX6) (N := 4) hx hb hts iX6 hown hK hP 7 rfl rfl 2 (by decide) (hts (.fieldLink RX9 191 "NetHouse$Past" "size" "I") (by decide +kernel)) (fun _ h9 => h9) rfl dX9_count_80 ?_
      exact x_iret (w1 := fun (u : Unit) => (wld_X9_count cI cJ cZ h_p0 ad_p0 ad_p0_growth ad_p0_growth_nodes ad_p0_hand ad_p0_net ad_p0_ofPlaces ad_p0_ofSteps ad_p0_past ad_p0_reach ad_p0_reach_all ad_p0_told p0_goings p0_latestFault p0_growth_made p0_growth_endlessNode p0_growth_endlessBy p0_growth_nodes_width p0_growth_nodes_size p0_hand_rowSize p0_hand_waySize p0_net_places p0_net_steps p0_net_coloured p0_ofPlaces_rows p0_ofPlaces_size p0_ofSteps_rows p0_ofSteps_size p0_past_size p0_past_end p0_reach_made p0_reach_turned p0_reach_steps p0_reach_all_width p0_reach_all_size p0_told_size)) hx hb hr hlocks () hw hP hD hS dX9_count_83
    have hw := hw.2
    by_cases hc3 : a1 = (3 : Int32)
    · have hw := hw.1 hc3
      refine lv_tableIn (tgt := 84) hx hb dX9_count_1 hsw1 hsw2 (by rw [hc3]; rfl) (by decide) ?_
      refine lv_aload_n hx hb dX9_count_84 rfl (lv_at hl 0 rfl) ?_
      refine va_get (D := (dC, dI)) (ci := 9) (v := .int p0_goings) (C := RX9) (T := TX9) (N := 12) hx hb hts iX9 hown hK hP 0 rfl rfl 10 (by decide) (hts (.fieldLink RX9 71 "NetHouse" "goings" "I") (by decide +kernel)) (fun _ h9 => h9) rfl dX9_count_85 ?_
      exact x_iret (w1 := fun (u : Unit) => (wld_X9_count cI cJ cZ h_p0 ad_p0 ad_p0_growth ad_p0_growth_nodes ad_p0_hand ad_p0_net ad_p0_ofPlaces ad_p0_ofSteps ad_p0_past ad_p0_reach ad_p0_reach_all ad_p0_told p0_goings p0_latestFault p0_growth_made p0_growth_endlessNode p0_growth_endlessBy p0_growth_nodes_width p0_growth_nodes_size p0_hand_rowSize p0_hand_waySize p0_net_places p0_net_steps p0_net_coloured p0_ofPlaces_rows p0_ofPlaces_size p0_ofSteps_rows p0_ofSteps_size p0_past_size p0_past_end p0_reach_made p0_reach_turned p0_reach_steps p0_reach_all_width p0_reach_all_size p0_told_size)) hx hb hr hlocks () hw hP hD hS dX9_count_88
    have hw := hw.2
    by_cases hc4 : a1 = (4 : Int32)
    · have hw := hw.1 hc4
      refine lv_tableIn (tgt := 89) hx hb dX9_count_1 hsw1 hsw2 (by rw [hc4]; rfl) (by decide) ?_
      refine lv_aload_n hx hb dX9_count_89 rfl (lv_at hl 0 rfl) ?_
      refine va_get (D := (dC, dI)) (ci := 9) (v := .ref (ad_p0 4)) (C := RX9) (T := TX9) (N := 12) hx hb hts iX9 hown hK hP 0 rfl rfl 4 (by decide) (hts (.fieldLink RX9 36 "NetHouse" "hand" "LNetHouse$Hand;") (by decide +kernel)) (fun _ h9 => h9) rfl dX9_count_90 ?_
      refine va_get (D := (dC, dI)) (ci := 2) (v := .int p0_hand_rowSize) (C := RX2) (T := TX2) (N := 4) hx hb hts iX2 hown hK hP 3 rfl rfl 2 (by decide) (hts (.fieldLink RX9 198 "NetHouse$Hand" "rowSize" "I") (by decide +kernel)) (fun _ h9 => h9) rfl dX9_count_93 ?_
      exact x_iret (w1 := fun (u : Unit) => (wld_X9_count cI cJ cZ h_p0 ad_p0 ad_p0_growth ad_p0_growth_nodes ad_p0_hand ad_p0_net ad_p0_ofPlaces ad_p0_ofSteps ad_p0_past ad_p0_reach ad_p0_reach_all ad_p0_told p0_goings p0_latestFault p0_growth_made p0_growth_endlessNode p0_growth_endlessBy p0_growth_nodes_width p0_growth_nodes_size p0_hand_rowSize p0_hand_waySize p0_net_places p0_net_steps p0_net_coloured p0_ofPlaces_rows p0_ofPlaces_size p0_ofSteps_rows p0_ofSteps_size p0_past_size p0_past_end p0_reach_made p0_reach_turned p0_reach_steps p0_reach_all_width p0_reach_all_size p0_told_size)) hx hb hr hlocks () hw hP hD hS dX9_count_96
    have hw := hw.2
    by_cases hc5 : a1 = (5 : Int32)
    · have hw := hw.1 hc5
      refine lv_tableIn (tgt := 97) hx hb dX9_count_1 hsw1 hsw2 (by rw [hc5]; rfl) (by decide) ?_
      refine lv_aload_n hx hb dX9_count_97 rfl (lv_at hl 0 rfl) ?_
      refine va_get (D := (dC, dI)) (ci := 9) (v := .ref (ad_p0 4)) (C := RX9) (T := TX9) (N := 12) hx hb hts iX9 hown hK hP 0 rfl rfl 4 (by decide) (hts (.fieldLink RX9 36 "NetHouse" "hand" "LNetHouse$Hand;") (by decide +kernel)) (fun _ h9 => h9) rfl dX9_count_98 ?_
      refine va_get (D := (dC, dI)) (ci := 2) (v := .int p0_hand_waySize) (C := RX2) (T := TX2) (N := 4) hx hb hts iX2 hown hK hP 3 rfl rfl 3 (by decide) (hts (.fieldLink RX9 224 "NetHouse$Hand" "waySize" "I") (by decide +kernel)) (fun _ h9 => h9) rfl dX9_count_101 ?_
      exact x_iret (w1 := fun (u : Unit) => (wld_X9_count cI cJ cZ h_p0 ad_p0 ad_p0_growth ad_p0_growth_nodes ad_p0_hand ad_p0_net ad_p0_ofPlaces ad_p0_ofSteps ad_p0_past ad_p0_reach ad_p0_reach_all ad_p0_told p0_goings p0_latestFault p0_growth_made p0_growth_endlessNode p0_growth_endlessBy p0_growth_nodes_width p0_growth_nodes_size p0_hand_rowSize p0_hand_waySize p0_net_places p0_net_steps p0_net_coloured p0_ofPlaces_rows p0_ofPlaces_size p0_ofSteps_rows p0_ofSteps_size p0_past_size p0_past_end p0_reach_made p0_reach_turned p0_reach_steps p0_reach_all_width p0_reach_all_size p0_told_size)) hx hb hr hlocks () hw hP hD hS dX9_count_104
    have hw := hw.2
    by_cases hc6 : a1 = (6 : Int32)
    · have hw := hw.1 hc6
      refine lv_tableIn (tgt := 105) hx hb dX9_count_1 hsw1 hsw2 (by rw [hc6]; rfl) (by decide) ?_
      refine lv_aload_n hx hb dX9_count_105 rfl (lv_at hl 0 rfl) ?_
      refine va_get (D := (dC, dI)) (ci := 9) (v := .ref (ad_p0 5)) (C := RX9) (T := TX9) (N := 12) hx hb hts iX9 hown hK hP 0 rfl rfl 5 (by decide) (hts (.fieldLink RX9 43 "NetHouse" "reach" "LNetHouse$Field;") (by decide +kernel)) (fun _ h9 => h9) rfl dX9_count_106 ?_
      refine va_get (D := (dC, dI)) (ci := 1) (v := .int p0_reach_made) (C := RX1) (T := TX1) (N := 11) hx hb hts iX1 hown hK hP 8 rfl rfl 8 (by decide) (hts (.fieldLink RX9 270 "NetHouse$Field" "made" "Z") (by decide +kernel)) (fun _ h9 => h9) rfl dX9_count_109 ?_
      refine lv_if_eq (tgt := 128) hx hb dX9_count_112 (by decide) (fun c1 => ?_) (fun c2 => ?_)
      · have hw := hw.1 c1
        refine lv_iconst (v := 0) hx hb dX9_count_128 (by decide) ?_
        exact x_iret (w1 := fun (u : Unit) => (wld_X9_count cI cJ cZ h_p0 ad_p0 ad_p0_growth ad_p0_growth_nodes ad_p0_hand ad_p0_net ad_p0_ofPlaces ad_p0_ofSteps ad_p0_past ad_p0_reach ad_p0_reach_all ad_p0_told p0_goings p0_latestFault p0_growth_made p0_growth_endlessNode p0_growth_endlessBy p0_growth_nodes_width p0_growth_nodes_size p0_hand_rowSize p0_hand_waySize p0_net_places p0_net_steps p0_net_coloured p0_ofPlaces_rows p0_ofPlaces_size p0_ofSteps_rows p0_ofSteps_size p0_past_size p0_past_end p0_reach_made p0_reach_turned p0_reach_steps p0_reach_all_width p0_reach_all_size p0_told_size)) hx hb hr hlocks () hw hP hD hS dX9_count_129
      · have hw := hw.2 c2
        refine lv_aload_n hx hb dX9_count_115 rfl (lv_at hl 0 rfl) ?_
        refine va_get (D := (dC, dI)) (ci := 9) (v := .ref (ad_p0 5)) (C := RX9) (T := TX9) (N := 12) hx hb hts iX9 hown hK hP 0 rfl rfl 5 (by decide) (hts (.fieldLink RX9 43 "NetHouse" "reach" "LNetHouse$Field;") (by decide +kernel)) (fun _ h9 => h9) rfl dX9_count_116 ?_
        refine va_get (D := (dC, dI)) (ci := 1) (v := .ref (ad_p0_reach 0)) (C := RX1) (T := TX1) (N := 11) hx hb hts iX1 hown hK hP 8 rfl rfl 0 (by decide) (hts (.fieldLink RX9 248 "NetHouse$Field" "all" "LNetHouse$Markings;") (by decide +kernel)) (fun _ h9 => h9) rfl dX9_count_119 ?_
        refine va_get (D := (dC, dI)) (ci := 4) (v := .int p0_reach_all_size) (C := RX4) (T := TX4) (N := 7) hx hb hts iX4 hown hK hP 9 rfl rfl 6 (by decide) (hts (.fieldLink RX9 252 "NetHouse$Markings" "size" "I") (by decide +kernel)) (fun _ h9 => h9) rfl dX9_count_122 ?_
        refine lv_goto (tgt := 129) hx hb dX9_count_125 (by decide) ?_
        exact x_iret (w1 := fun (u : Unit) => (wld_X9_count cI cJ cZ h_p0 ad_p0 ad_p0_growth ad_p0_growth_nodes ad_p0_hand ad_p0_net ad_p0_ofPlaces ad_p0_ofSteps ad_p0_past ad_p0_reach ad_p0_reach_all ad_p0_told p0_goings p0_latestFault p0_growth_made p0_growth_endlessNode p0_growth_endlessBy p0_growth_nodes_width p0_growth_nodes_size p0_hand_rowSize p0_hand_waySize p0_net_places p0_net_steps p0_net_coloured p0_ofPlaces_rows p0_ofPlaces_size p0_ofSteps_rows p0_ofSteps_size p0_past_size p0_past_end p0_reach_made p0_reach_turned p0_reach_steps p0_reach_all_width p0_reach_all_size p0_told_size)) hx hb hr hlocks () hw hP hD hS dX9_count_129
    have hw := hw.2
    by_cases hc7 : a1 = (7 : Int32)
    · have hw := hw.1 hc7
      refine lv_tableIn (tgt := 130) hx hb dX9_count_1 hsw1 hsw2 (by rw [hc7]; rfl) (by decide) ?_
      refine lv_aload_n hx hb dX9_count_130 rfl (lv_at hl 0 rfl) ?_
      refine va_get (D := (dC, dI)) (ci := 9) (v := .ref (ad_p0 6)) (C := RX9) (T := TX9) (N := 12) hx hb hts iX9 hown hK hP 0 rfl rfl 6 (by decide) (hts (.fieldLink RX9 50 "NetHouse" "growth" "LNetHouse$Tree;") (by decide +kernel)) (fun _ h9 => h9) rfl dX9_count_131 ?_
      refine va_get (D := (dC, dI)) (ci := 8) (v := .int p0_growth_made) (C := RX8) (T := TX8) (N := 6) hx hb hts iX8 hown hK hP 1 rfl rfl 3 (by decide) (hts (.fieldLink RX9 319 "NetHouse$Tree" "made" "Z") (by decide +kernel)) (fun _ h9 => h9) rfl dX9_count_134 ?_
      refine lv_if_eq (tgt := 153) hx hb dX9_count_137 (by decide) (fun c3 => ?_) (fun c4 => ?_)
      · have hw := hw.1 c3
        refine lv_iconst (v := 0) hx hb dX9_count_153 (by decide) ?_
        exact x_iret (w1 := fun (u : Unit) => (wld_X9_count cI cJ cZ h_p0 ad_p0 ad_p0_growth ad_p0_growth_nodes ad_p0_hand ad_p0_net ad_p0_ofPlaces ad_p0_ofSteps ad_p0_past ad_p0_reach ad_p0_reach_all ad_p0_told p0_goings p0_latestFault p0_growth_made p0_growth_endlessNode p0_growth_endlessBy p0_growth_nodes_width p0_growth_nodes_size p0_hand_rowSize p0_hand_waySize p0_net_places p0_net_steps p0_net_coloured p0_ofPlaces_rows p0_ofPlaces_size p0_ofSteps_rows p0_ofSteps_size p0_past_size p0_past_end p0_reach_made p0_reach_turned p0_reach_steps p0_reach_all_width p0_reach_all_size p0_told_size)) hx hb hr hlocks () hw hP hD hS dX9_count_154
      · have hw := hw.2 c4
        refine lv_aload_n hx hb dX9_count_140 rfl (lv_at hl 0 rfl) ?_
        refine va_get (D := (dC, dI)) (ci := 9) (v := .ref (ad_p0 6)) (C := RX9) (T := TX9) (N := 12) hx hb hts iX9 hown hK hP 0 rfl rfl 6 (by decide) (hts (.fieldLink RX9 50 "NetHouse" "growth" "LNetHouse$Tree;") (by decide +kernel)) (fun _ h9 => h9) rfl dX9_count_141 ?_
        refine va_get (D := (dC, dI)) (ci := 8) (v := .ref (ad_p0_growth 0)) (C := RX8) (T := TX8) (N := 6) hx hb hts iX8 hown hK hP 1 rfl rfl 0 (by decide) (hts (.fieldLink RX9 303 "NetHouse$Tree" "nodes" "LNetHouse$Markings;") (by decide +kernel)) (fun _ h9 => h9) rfl dX9_count_144 ?_
        refine va_get (D := (dC, dI)) (ci := 4) (v := .int p0_growth_nodes_size) (C := RX4) (T := TX4) (N := 7) hx hb hts iX4 hown hK hP 2 rfl rfl 6 (by decide) (hts (.fieldLink RX9 252 "NetHouse$Markings" "size" "I") (by decide +kernel)) (fun _ h9 => h9) rfl dX9_count_147 ?_
        refine lv_goto (tgt := 154) hx hb dX9_count_150 (by decide) ?_
        exact x_iret (w1 := fun (u : Unit) => (wld_X9_count cI cJ cZ h_p0 ad_p0 ad_p0_growth ad_p0_growth_nodes ad_p0_hand ad_p0_net ad_p0_ofPlaces ad_p0_ofSteps ad_p0_past ad_p0_reach ad_p0_reach_all ad_p0_told p0_goings p0_latestFault p0_growth_made p0_growth_endlessNode p0_growth_endlessBy p0_growth_nodes_width p0_growth_nodes_size p0_hand_rowSize p0_hand_waySize p0_net_places p0_net_steps p0_net_coloured p0_ofPlaces_rows p0_ofPlaces_size p0_ofSteps_rows p0_ofSteps_size p0_past_size p0_past_end p0_reach_made p0_reach_turned p0_reach_steps p0_reach_all_width p0_reach_all_size p0_told_size)) hx hb hr hlocks () hw hP hD hS dX9_count_154
    have hw := hw.2
    by_cases hc8 : a1 = (8 : Int32)
    · have hw := hw.1 hc8
      refine lv_tableIn (tgt := 155) hx hb dX9_count_1 hsw1 hsw2 (by rw [hc8]; rfl) (by decide) ?_
      refine lv_aload_n hx hb dX9_count_155 rfl (lv_at hl 0 rfl) ?_
      refine va_get (D := (dC, dI)) (ci := 9) (v := .ref (ad_p0 7)) (C := RX9) (T := TX9) (N := 12) hx hb hts iX9 hown hK hP 0 rfl rfl 7 (by decide) (hts (.fieldLink RX9 57 "NetHouse" "ofPlaces" "LNetHouse$Balance;") (by decide +kernel)) (fun _ h9 => h9) rfl dX9_count_156 ?_
      refine va_get (D := (dC, dI)) (ci := 0) (v := .int p0_ofPlaces_size) (C := RX0) (T := TX0) (N := 5) hx hb hts iX0 hown hK hP 5 rfl rfl 4 (by decide) (hts (.fieldLink RX9 340 "NetHouse$Balance" "size" "I") (by decide +kernel)) (fun _ h9 => h9) rfl dX9_count_159 ?_
      exact x_iret (w1 := fun (u : Unit) => (wld_X9_count cI cJ cZ h_p0 ad_p0 ad_p0_growth ad_p0_growth_nodes ad_p0_hand ad_p0_net ad_p0_ofPlaces ad_p0_ofSteps ad_p0_past ad_p0_reach ad_p0_reach_all ad_p0_told p0_goings p0_latestFault p0_growth_made p0_growth_endlessNode p0_growth_endlessBy p0_growth_nodes_width p0_growth_nodes_size p0_hand_rowSize p0_hand_waySize p0_net_places p0_net_steps p0_net_coloured p0_ofPlaces_rows p0_ofPlaces_size p0_ofSteps_rows p0_ofSteps_size p0_past_size p0_past_end p0_reach_made p0_reach_turned p0_reach_steps p0_reach_all_width p0_reach_all_size p0_told_size)) hx hb hr hlocks () hw hP hD hS dX9_count_162
    have hw := hw.2
    by_cases hc9 : a1 = (9 : Int32)
    · have hw := hw.1 hc9
      refine lv_tableIn (tgt := 163) hx hb dX9_count_1 hsw1 hsw2 (by rw [hc9]; rfl) (by decide) ?_
      refine lv_aload_n hx hb dX9_count_163 rfl (lv_at hl 0 rfl) ?_
      refine va_get (D := (dC, dI)) (ci := 9) (v := .ref (ad_p0 8)) (C := RX9) (T := TX9) (N := 12) hx hb hts iX9 hown hK hP 0 rfl rfl 8 (by decide) (hts (.fieldLink RX9 61 "NetHouse" "ofSteps" "LNetHouse$Balance;") (by decide +kernel)) (fun _ h9 => h9) rfl dX9_count_164 ?_
      refine va_get (D := (dC, dI)) (ci := 0) (v := .int p0_ofSteps_size) (C := RX0) (T := TX0) (N := 5) hx hb hts iX0 hown hK hP 6 rfl rfl 4 (by decide) (hts (.fieldLink RX9 340 "NetHouse$Balance" "size" "I") (by decide +kernel)) (fun _ h9 => h9) rfl dX9_count_167 ?_
      exact x_iret (w1 := fun (u : Unit) => (wld_X9_count cI cJ cZ h_p0 ad_p0 ad_p0_growth ad_p0_growth_nodes ad_p0_hand ad_p0_net ad_p0_ofPlaces ad_p0_ofSteps ad_p0_past ad_p0_reach ad_p0_reach_all ad_p0_told p0_goings p0_latestFault p0_growth_made p0_growth_endlessNode p0_growth_endlessBy p0_growth_nodes_width p0_growth_nodes_size p0_hand_rowSize p0_hand_waySize p0_net_places p0_net_steps p0_net_coloured p0_ofPlaces_rows p0_ofPlaces_size p0_ofSteps_rows p0_ofSteps_size p0_past_size p0_past_end p0_reach_made p0_reach_turned p0_reach_steps p0_reach_all_width p0_reach_all_size p0_told_size)) hx hb hr hlocks () hw hP hD hS dX9_count_170
    have hw := hw.2
    have hc10 : a1 = (10 : Int32) := xSw10 hsw1 hsw2 hc0 hc1 hc2 hc3 hc4 hc5 hc6 hc7 hc8 hc9
    have hw := hw hc10
    refine lv_tableIn (tgt := 171) hx hb dX9_count_1 hsw1 hsw2 (by rw [hc10]; rfl) (by decide) ?_
    refine lv_aload_n hx hb dX9_count_171 rfl (lv_at hl 0 rfl) ?_
    refine va_get (D := (dC, dI)) (ci := 9) (v := .ref (ad_p0 9)) (C := RX9) (T := TX9) (N := 12) hx hb hts iX9 hown hK hP 0 rfl rfl 9 (by decide) (hts (.fieldLink RX9 67 "NetHouse" "told" "LNetHouse$SetList;") (by decide +kernel)) (fun _ h9 => h9) rfl dX9_count_172 ?_
    refine va_get (D := (dC, dI)) (ci := 7) (v := .int p0_told_size) (C := RX7) (T := TX7) (N := 2) hx hb hts iX7 hown hK hP 10 rfl rfl 1 (by decide) (hts (.fieldLink RX9 360 "NetHouse$SetList" "size" "I") (by decide +kernel)) (fun _ h9 => h9) rfl dX9_count_175 ?_
    exact x_iret (w1 := fun (u : Unit) => (wld_X9_count cI cJ cZ h_p0 ad_p0 ad_p0_growth ad_p0_growth_nodes ad_p0_hand ad_p0_net ad_p0_ofPlaces ad_p0_ofSteps ad_p0_past ad_p0_reach ad_p0_reach_all ad_p0_told p0_goings p0_latestFault p0_growth_made p0_growth_endlessNode p0_growth_endlessBy p0_growth_nodes_width p0_growth_nodes_size p0_hand_rowSize p0_hand_waySize p0_net_places p0_net_steps p0_net_coloured p0_ofPlaces_rows p0_ofPlaces_size p0_ofSteps_rows p0_ofSteps_size p0_past_size p0_past_end p0_reach_made p0_reach_turned p0_reach_steps p0_reach_all_width p0_reach_all_size p0_told_size)) hx hb hr hlocks () hw hP hD hS dX9_count_178
abbrev wld_X10_isPlace (cI cJ cZ : ClassId) (h_p0 : Nat) (ad_p0 : Nat → Nat) (p0_places : Int32) (p0_steps : Int32) (p0_pastFirst : Int32) (p0_past : Int32) (p0_goings : Int32) (p0_rowSize : Int32) (p0_ways : Int32) (p0_hasField : Int32) (p0_fieldSize : Int32) (p0_faultNow : Int32) (p0_hasTree : Int32) (p0_treeSize : Int32) (p0_weightCount : Int32) (p0_roundCount : Int32) (p0_setCount : Int32) : va_W := [(h_p0, .inr (10, [.int p0_places, .int p0_steps, .ref (ad_p0 2), .ref (ad_p0 3), .ref (ad_p0 4), .ref (ad_p0 5), .ref (ad_p0 6), .ref (ad_p0 7), .ref (ad_p0 8), .ref (ad_p0 9), .ref (ad_p0 10), .ref (ad_p0 11), .ref (ad_p0 12), .ref (ad_p0 13), .ref (ad_p0 14), .int p0_pastFirst, .int p0_past, .int p0_goings, .int p0_rowSize, .ref (ad_p0 19), .ref (ad_p0 20), .int p0_ways, .ref (ad_p0 22), .ref (ad_p0 23), .int p0_hasField, .int p0_fieldSize, .ref (ad_p0 26), .ref (ad_p0 27), .ref (ad_p0 28), .ref (ad_p0 29), .ref (ad_p0 30), .ref (ad_p0 31), .ref (ad_p0 32), .int p0_faultNow, .int p0_hasTree, .int p0_treeSize, .ref (ad_p0 36), .ref (ad_p0 37), .ref (ad_p0 38), .ref (ad_p0 39), .ref (ad_p0 40), .ref (ad_p0 41), .ref (ad_p0 42), .int p0_weightCount, .ref (ad_p0 44), .int p0_roundCount, .ref (ad_p0 46), .int p0_setCount, .ref (ad_p0 48), .ref (ad_p0 49)]))]
abbrev q_X10_isPlace (dC : Nat → ClassId) (dI : Nat → Nat → Nat) (cI cJ cZ : ClassId) (h_p0 : Nat) (ad_p0 : Nat → Nat) (p0_places : Int32) (p0_steps : Int32) (p0_pastFirst : Int32) (p0_past : Int32) (p0_goings : Int32) (p0_rowSize : Int32) (p0_ways : Int32) (p0_hasField : Int32) (p0_fieldSize : Int32) (p0_faultNow : Int32) (p0_hasTree : Int32) (p0_treeSize : Int32) (p0_weightCount : Int32) (p0_roundCount : Int32) (p0_setCount : Int32) (post : Int32 → Prop) (A : Nat → Prop) : Array Value → State → Outcome → State → Prop := va_Qi (fun r (u : Unit) => post r ) (fun (u : Unit) t => xPost (dC, dI) A (wld_X10_isPlace cI cJ cZ h_p0 ad_p0 p0_places p0_steps p0_pastFirst p0_past p0_goings p0_rowSize p0_ways p0_hasField p0_fieldSize p0_faultNow p0_hasTree p0_treeSize p0_weightCount p0_roundCount p0_setCount) t) A
def w_X10_isPlace (p0_places : Int32) (a1 : Int32) (post : Int32 → Prop) : Prop :=
  (a1 < 0 →
    (post (0 : Int32))) ∧
  (¬ a1 < 0 →
    (p0_places ≤ a1 →
      (post (0 : Int32))) ∧
    (¬ p0_places ≤ a1 →
      (post (1 : Int32))))
set_option maxHeartbeats 4000000 in
set_option maxRecDepth 100000 in
theorem c_X10_isPlace {l : Launch} {dC : Nat → ClassId} {dI : Nat → Nat → Nat} {sz : Nat} {cI cJ cZ : ClassId} {h_p0 : Nat} {ad_p0 : Nat → Nat} {p0_places : Int32} {p0_steps : Int32} {p0_pastFirst : Int32} {p0_past : Int32} {p0_goings : Int32} {p0_rowSize : Int32} {p0_ways : Int32} {p0_hasField : Int32} {p0_fieldSize : Int32} {p0_faultNow : Int32} {p0_hasTree : Int32} {p0_treeSize : Int32} {p0_weightCount : Int32} {p0_roundCount : Int32} {p0_setCount : Int32} {a1 : Int32} {post : Int32 → Prop} (hw : w_X10_isPlace p0_places a1 post) : Met l yX10_isPlace wsX10_isPlace ({ frames := 0, cells := 0, slots := 0, locals := 0 }) (va_Pc [.ref h_p0, .int a1] (xPre (dC, dI) cI cJ cZ (wld_X10_isPlace cI cJ cZ h_p0 ad_p0 p0_places p0_steps p0_pastFirst p0_past p0_goings p0_rowSize p0_ways p0_hasField p0_fieldSize p0_faultNow p0_hasTree p0_treeSize p0_weightCount p0_roundCount p0_setCount) sz)) (q_X10_isPlace dC dI cI cJ cZ h_p0 ad_p0 p0_places p0_steps p0_pastFirst p0_past p0_goings p0_rowSize p0_ways p0_hasField p0_fieldSize p0_faultNow p0_hasTree p0_treeSize p0_weightCount p0_roundCount p0_setCount post (va_A (wld_X10_isPlace cI cJ cZ h_p0 ad_p0 p0_places p0_steps p0_pastFirst p0_past p0_goings p0_rowSize p0_ways p0_hasField p0_fieldSize p0_faultNow p0_hasTree p0_treeSize p0_weightCount p0_roundCount p0_setCount) sz)) 0 0 (va_A (wld_X10_isPlace cI cJ cZ h_p0 ad_p0 p0_places p0_steps p0_pastFirst p0_past p0_goings p0_rowSize p0_ways p0_hasField p0_fieldSize p0_faultNow p0_hasTree p0_treeSize p0_weightCount p0_roundCount p0_setCount) sz) := by
  refine x_met (cc := cX10_isPlace) (maxL := 2) (ret := (some .boolean)) (own := RX10) (Qc := fun A => (q_X10_isPlace dC dI cI cJ cZ h_p0 ad_p0 p0_places p0_steps p0_pastFirst p0_past p0_goings p0_rowSize p0_ways p0_hasField p0_fieldSize p0_faultNow p0_hasTree p0_treeSize p0_weightCount p0_roundCount p0_setCount post A)) (by decide) rfl rfl (Nat.le_of_ble_eq_true rfl) ?_
  intro p e s m args below meth c A ls E0 hP hD hS hl
  obtain ⟨hx, hb, hr, hml, hown, hts, hlocks, hK, hA, n1, n2⟩ := id E0
  have iX10 : ∀ w ∈ u_ws RX10 TX10 50, w ∈ wsX10_isPlace := fun w h => List.mem_cons_of_mem _ (List.mem_append_right _ h)
  have hS0 := hS
  have hl : lv_has ls 2 [(0, .ref h_p0), (1, .int a1)] := hl
  unfold w_X10_isPlace at hw
  obtain ⟨H, hH⟩ : ∃ H, H = s.heap := ⟨_, rfl⟩
  have hS : va_S A s.heap H [] := by rw [hH]; exact hS
  have hP : va_P (dC, dI) vwCl (wld_X10_isPlace cI cJ cZ h_p0 ad_p0 p0_places p0_steps p0_pastFirst p0_past p0_goings p0_rowSize p0_ways p0_hasField p0_fieldSize p0_faultNow p0_hasTree p0_treeSize p0_weightCount p0_roundCount p0_setCount) H := by rw [hH]; exact hP
  suffices hG : W p l e ({ frames := 0, cells := 0, slots := 0, locals := 0 }) s m args below meth c H [] 0 0 (MQ below (q_X10_isPlace dC dI cI cJ cZ h_p0 ad_p0 p0_places p0_steps p0_pastFirst p0_past p0_goings p0_rowSize p0_ways p0_hasField p0_fieldSize p0_faultNow p0_hasTree p0_treeSize p0_weightCount p0_roundCount p0_setCount post A) args s 0 0 A) (F0 m 0 ls []) by rw [hH] at hG; exact hG
  clear hH
  refine lv_iload_n hx hb dX10_isPlace_0 rfl (lv_at hl 1 rfl) ?_
  refine lv_if_lt (tgt := 16) hx hb dX10_isPlace_1 (by decide) (fun c1 => ?_) (fun c2 => ?_)
  · have hw := hw.1 c1
    refine lv_iconst (v := 0) hx hb dX10_isPlace_16 (by decide) ?_
    exact x_zret (w1 := fun (u : Unit) => (wld_X10_isPlace cI cJ cZ h_p0 ad_p0 p0_places p0_steps p0_pastFirst p0_past p0_goings p0_rowSize p0_ways p0_hasField p0_fieldSize p0_faultNow p0_hasTree p0_treeSize p0_weightCount p0_roundCount p0_setCount)) hx hb hr hlocks (by decide) () hw hP hD hS dX10_isPlace_17
  · have hw := hw.2 c2
    refine lv_iload_n hx hb dX10_isPlace_4 rfl (lv_at hl 1 rfl) ?_
    refine lv_aload_n hx hb dX10_isPlace_5 rfl (lv_at hl 0 rfl) ?_
    refine va_get (D := (dC, dI)) (ci := 10) (v := .int p0_places) (C := RX10) (T := TX10) (N := 50) hx hb hts iX10 hown hK hP 0 rfl rfl 0 (by decide) (hts (.fieldLink RX10 127 "NetHouseModel" "places" "I") (by decide +kernel)) (fun _ h9 => h9) rfl dX10_isPlace_6 ?_
    refine lv_icmp_ge (tgt := 16) hx hb dX10_isPlace_9 (by decide) (fun c3 => ?_) (fun c4 => ?_)
    · have hw := hw.1 c3
      refine lv_iconst (v := 0) hx hb dX10_isPlace_16 (by decide) ?_
      exact x_zret (w1 := fun (u : Unit) => (wld_X10_isPlace cI cJ cZ h_p0 ad_p0 p0_places p0_steps p0_pastFirst p0_past p0_goings p0_rowSize p0_ways p0_hasField p0_fieldSize p0_faultNow p0_hasTree p0_treeSize p0_weightCount p0_roundCount p0_setCount)) hx hb hr hlocks (by decide) () hw hP hD hS dX10_isPlace_17
    · have hw := hw.2 c4
      refine lv_iconst (v := 1) hx hb dX10_isPlace_12 (by decide) ?_
      refine lv_goto (tgt := 17) hx hb dX10_isPlace_13 (by decide) ?_
      exact x_zret (w1 := fun (u : Unit) => (wld_X10_isPlace cI cJ cZ h_p0 ad_p0 p0_places p0_steps p0_pastFirst p0_past p0_goings p0_rowSize p0_ways p0_hasField p0_fieldSize p0_faultNow p0_hasTree p0_treeSize p0_weightCount p0_roundCount p0_setCount)) hx hb hr hlocks (by decide) () hw hP hD hS dX10_isPlace_17
abbrev wld_X10_isStep (cI cJ cZ : ClassId) (h_p0 : Nat) (ad_p0 : Nat → Nat) (p0_places : Int32) (p0_steps : Int32) (p0_pastFirst : Int32) (p0_past : Int32) (p0_goings : Int32) (p0_rowSize : Int32) (p0_ways : Int32) (p0_hasField : Int32) (p0_fieldSize : Int32) (p0_faultNow : Int32) (p0_hasTree : Int32) (p0_treeSize : Int32) (p0_weightCount : Int32) (p0_roundCount : Int32) (p0_setCount : Int32) : va_W := [(h_p0, .inr (10, [.int p0_places, .int p0_steps, .ref (ad_p0 2), .ref (ad_p0 3), .ref (ad_p0 4), .ref (ad_p0 5), .ref (ad_p0 6), .ref (ad_p0 7), .ref (ad_p0 8), .ref (ad_p0 9), .ref (ad_p0 10), .ref (ad_p0 11), .ref (ad_p0 12), .ref (ad_p0 13), .ref (ad_p0 14), .int p0_pastFirst, .int p0_past, .int p0_goings, .int p0_rowSize, .ref (ad_p0 19), .ref (ad_p0 20), .int p0_ways, .ref (ad_p0 22), .ref (ad_p0 23), .int p0_hasField, .int p0_fieldSize, .ref (ad_p0 26), .ref (ad_p0 27), .ref (ad_p0 28), .ref (ad_p0 29), .ref (ad_p0 30), .ref (ad_p0 31), .ref (ad_p0 32), .int p0_faultNow, .int p0_hasTree, .int p0_treeSize, .ref (ad_p0 36), .ref (ad_p0 37), .ref (ad_p0 38), .ref (ad_p0 39), .ref (ad_p0 40), .ref (ad_p0 41), .ref (ad_p0 42), .int p0_weightCount, .ref (ad_p0 44), .int p0_roundCount, .ref (ad_p0 46), .int p0_setCount, .ref (ad_p0 48), .ref (ad_p0 49)]))]
abbrev q_X10_isStep (dC : Nat → ClassId) (dI : Nat → Nat → Nat) (cI cJ cZ : ClassId) (h_p0 : Nat) (ad_p0 : Nat → Nat) (p0_places : Int32) (p0_steps : Int32) (p0_pastFirst : Int32) (p0_past : Int32) (p0_goings : Int32) (p0_rowSize : Int32) (p0_ways : Int32) (p0_hasField : Int32) (p0_fieldSize : Int32) (p0_faultNow : Int32) (p0_hasTree : Int32) (p0_treeSize : Int32) (p0_weightCount : Int32) (p0_roundCount : Int32) (p0_setCount : Int32) (post : Int32 → Prop) (A : Nat → Prop) : Array Value → State → Outcome → State → Prop := va_Qi (fun r (u : Unit) => post r ) (fun (u : Unit) t => xPost (dC, dI) A (wld_X10_isStep cI cJ cZ h_p0 ad_p0 p0_places p0_steps p0_pastFirst p0_past p0_goings p0_rowSize p0_ways p0_hasField p0_fieldSize p0_faultNow p0_hasTree p0_treeSize p0_weightCount p0_roundCount p0_setCount) t) A
def w_X10_isStep (p0_steps : Int32) (a1 : Int32) (post : Int32 → Prop) : Prop :=
  (a1 < 0 →
    (post (0 : Int32))) ∧
  (¬ a1 < 0 →
    (p0_steps ≤ a1 →
      (post (0 : Int32))) ∧
    (¬ p0_steps ≤ a1 →
      (post (1 : Int32))))
set_option maxHeartbeats 4000000 in
set_option maxRecDepth 100000 in
theorem c_X10_isStep {l : Launch} {dC : Nat → ClassId} {dI : Nat → Nat → Nat} {sz : Nat} {cI cJ cZ : ClassId} {h_p0 : Nat} {ad_p0 : Nat → Nat} {p0_places : Int32} {p0_steps : Int32} {p0_pastFirst : Int32} {p0_past : Int32} {p0_goings : Int32} {p0_rowSize : Int32} {p0_ways : Int32} {p0_hasField : Int32} {p0_fieldSize : Int32} {p0_faultNow : Int32} {p0_hasTree : Int32} {p0_treeSize : Int32} {p0_weightCount : Int32} {p0_roundCount : Int32} {p0_setCount : Int32} {a1 : Int32} {post : Int32 → Prop} (hw : w_X10_isStep p0_steps a1 post) : Met l yX10_isStep wsX10_isStep ({ frames := 0, cells := 0, slots := 0, locals := 0 }) (va_Pc [.ref h_p0, .int a1] (xPre (dC, dI) cI cJ cZ (wld_X10_isStep cI cJ cZ h_p0 ad_p0 p0_places p0_steps p0_pastFirst p0_past p0_goings p0_rowSize p0_ways p0_hasField p0_fieldSize p0_faultNow p0_hasTree p0_treeSize p0_weightCount p0_roundCount p0_setCount) sz)) (q_X10_isStep dC dI cI cJ cZ h_p0 ad_p0 p0_places p0_steps p0_pastFirst p0_past p0_goings p0_rowSize p0_ways p0_hasField p0_fieldSize p0_faultNow p0_hasTree p0_treeSize p0_weightCount p0_roundCount p0_setCount post (va_A (wld_X10_isStep cI cJ cZ h_p0 ad_p0 p0_places p0_steps p0_pastFirst p0_past p0_goings p0_rowSize p0_ways p0_hasField p0_fieldSize p0_faultNow p0_hasTree p0_treeSize p0_weightCount p0_roundCount p0_setCount) sz)) 0 0 (va_A (wld_X10_isStep cI cJ cZ h_p0 ad_p0 p0_places p0_steps p0_pastFirst p0_past p0_goings p0_rowSize p0_ways p0_hasField p0_fieldSize p0_faultNow p0_hasTree p0_treeSize p0_weightCount p0_roundCount p0_setCount) sz) := by
  refine x_met (cc := cX10_isStep) (maxL := 2) (ret := (some .boolean)) (own := RX10) (Qc := fun A => (q_X10_isStep dC dI cI cJ cZ h_p0 ad_p0 p0_places p0_steps p0_pastFirst p0_past p0_goings p0_rowSize p0_ways p0_hasField p0_fieldSize p0_faultNow p0_hasTree p0_treeSize p0_weightCount p0_roundCount p0_setCount post A)) (by decide) rfl rfl (Nat.le_of_ble_eq_true rfl) ?_
  intro p e s m args below meth c A ls E0 hP hD hS hl
  obtain ⟨hx, hb, hr, hml, hown, hts, hlocks, hK, hA, n1, n2⟩ := id E0
  have iX10 : ∀ w ∈ u_ws RX10 TX10 50, w ∈ wsX10_isStep := fun w h => List.mem_cons_of_mem _ (List.mem_append_right _ h)
  have hS0 := hS
  have hl : lv_has ls 2 [(0, .ref h_p0), (1, .int a1)] := hl
  unfold w_X10_isStep at hw
  obtain ⟨H, hH⟩ : ∃ H, H = s.heap := ⟨_, rfl⟩
  have hS : va_S A s.heap H [] := by rw [hH]; exact hS
  have hP : va_P (dC, dI) vwCl (wld_X10_isStep cI cJ cZ h_p0 ad_p0 p0_places p0_steps p0_pastFirst p0_past p0_goings p0_rowSize p0_ways p0_hasField p0_fieldSize p0_faultNow p0_hasTree p0_treeSize p0_weightCount p0_roundCount p0_setCount) H := by rw [hH]; exact hP
  suffices hG : W p l e ({ frames := 0, cells := 0, slots := 0, locals := 0 }) s m args below meth c H [] 0 0 (MQ below (q_X10_isStep dC dI cI cJ cZ h_p0 ad_p0 p0_places p0_steps p0_pastFirst p0_past p0_goings p0_rowSize p0_ways p0_hasField p0_fieldSize p0_faultNow p0_hasTree p0_treeSize p0_weightCount p0_roundCount p0_setCount post A) args s 0 0 A) (F0 m 0 ls []) by rw [hH] at hG; exact hG
  clear hH
  refine lv_iload_n hx hb dX10_isStep_0 rfl (lv_at hl 1 rfl) ?_
  refine lv_if_lt (tgt := 16) hx hb dX10_isStep_1 (by decide) (fun c1 => ?_) (fun c2 => ?_)
  · have hw := hw.1 c1
    refine lv_iconst (v := 0) hx hb dX10_isStep_16 (by decide) ?_
    exact x_zret (w1 := fun (u : Unit) => (wld_X10_isStep cI cJ cZ h_p0 ad_p0 p0_places p0_steps p0_pastFirst p0_past p0_goings p0_rowSize p0_ways p0_hasField p0_fieldSize p0_faultNow p0_hasTree p0_treeSize p0_weightCount p0_roundCount p0_setCount)) hx hb hr hlocks (by decide) () hw hP hD hS dX10_isStep_17
  · have hw := hw.2 c2
    refine lv_iload_n hx hb dX10_isStep_4 rfl (lv_at hl 1 rfl) ?_
    refine lv_aload_n hx hb dX10_isStep_5 rfl (lv_at hl 0 rfl) ?_
    refine va_get (D := (dC, dI)) (ci := 10) (v := .int p0_steps) (C := RX10) (T := TX10) (N := 50) hx hb hts iX10 hown hK hP 0 rfl rfl 1 (by decide) (hts (.fieldLink RX10 130 "NetHouseModel" "steps" "I") (by decide +kernel)) (fun _ h9 => h9) rfl dX10_isStep_6 ?_
    refine lv_icmp_ge (tgt := 16) hx hb dX10_isStep_9 (by decide) (fun c3 => ?_) (fun c4 => ?_)
    · have hw := hw.1 c3
      refine lv_iconst (v := 0) hx hb dX10_isStep_16 (by decide) ?_
      exact x_zret (w1 := fun (u : Unit) => (wld_X10_isStep cI cJ cZ h_p0 ad_p0 p0_places p0_steps p0_pastFirst p0_past p0_goings p0_rowSize p0_ways p0_hasField p0_fieldSize p0_faultNow p0_hasTree p0_treeSize p0_weightCount p0_roundCount p0_setCount)) hx hb hr hlocks (by decide) () hw hP hD hS dX10_isStep_17
    · have hw := hw.2 c4
      refine lv_iconst (v := 1) hx hb dX10_isStep_12 (by decide) ?_
      refine lv_goto (tgt := 17) hx hb dX10_isStep_13 (by decide) ?_
      exact x_zret (w1 := fun (u : Unit) => (wld_X10_isStep cI cJ cZ h_p0 ad_p0 p0_places p0_steps p0_pastFirst p0_past p0_goings p0_rowSize p0_ways p0_hasField p0_fieldSize p0_faultNow p0_hasTree p0_treeSize p0_weightCount p0_roundCount p0_setCount)) hx hb hr hlocks (by decide) () hw hP hD hS dX10_isStep_17
abbrev wld_X10_isIn (cI cJ cZ : ClassId) : va_W := []
abbrev q_X10_isIn (dC : Nat → ClassId) (dI : Nat → Nat → Nat) (cI cJ cZ : ClassId) (post : Int32 → Prop) (A : Nat → Prop) : Array Value → State → Outcome → State → Prop := va_Qi (fun r (u : Unit) => post r ) (fun (u : Unit) t => xPost (dC, dI) A (wld_X10_isIn cI cJ cZ) t) A
def w_X10_isIn (a0 : Int32) (a1 : Int32) (a2 : Int32) (post : Int32 → Prop) : Prop :=
  (a0 < a1 →
    (post (0 : Int32))) ∧
  (¬ a0 < a1 →
    (a2 < a0 →
      (post (0 : Int32))) ∧
    (¬ a2 < a0 →
      (post (1 : Int32))))
set_option maxHeartbeats 4000000 in
set_option maxRecDepth 100000 in
theorem c_X10_isIn {l : Launch} {dC : Nat → ClassId} {dI : Nat → Nat → Nat} {sz : Nat} {cI cJ cZ : ClassId} {a0 : Int32} {a1 : Int32} {a2 : Int32} {post : Int32 → Prop} (hw : w_X10_isIn a0 a1 a2 post) : Met l yX10_isIn wsX10_isIn ({ frames := 0, cells := 0, slots := 0, locals := 0 }) (va_Pc [.int a0, .int a1, .int a2] (xPre (dC, dI) cI cJ cZ (wld_X10_isIn cI cJ cZ) sz)) (q_X10_isIn dC dI cI cJ cZ post (va_A (wld_X10_isIn cI cJ cZ) sz)) 0 0 (va_A (wld_X10_isIn cI cJ cZ) sz) := by
  refine x_met (cc := cX10_isIn) (maxL := 3) (ret := (some .boolean)) (own := RX10) (Qc := fun A => (q_X10_isIn dC dI cI cJ cZ post A)) (by decide) rfl rfl (Nat.le_of_ble_eq_true rfl) ?_
  intro p e s m args below meth c A ls E0 hP hD hS hl
  obtain ⟨hx, hb, hr, hml, hown, hts, hlocks, hK, hA, n1, n2⟩ := id E0
  have hS0 := hS
  have hl : lv_has ls 3 [(0, .int a0), (1, .int a1), (2, .int a2)] := hl
  unfold w_X10_isIn at hw
  obtain ⟨H, hH⟩ : ∃ H, H = s.heap := ⟨_, rfl⟩
  have hS : va_S A s.heap H [] := by rw [hH]; exact hS
  have hP : va_P (dC, dI) vwCl (wld_X10_isIn cI cJ cZ) H := by rw [hH]; exact hP
  suffices hG : W p l e ({ frames := 0, cells := 0, slots := 0, locals := 0 }) s m args below meth c H [] 0 0 (MQ below (q_X10_isIn dC dI cI cJ cZ post A) args s 0 0 A) (F0 m 0 ls []) by rw [hH] at hG; exact hG
  clear hH
  refine lv_iload_n hx hb dX10_isIn_0 rfl (lv_at hl 0 rfl) ?_
  refine lv_iload_n hx hb dX10_isIn_1 rfl (lv_at hl 1 rfl) ?_
  refine lv_icmp_lt (tgt := 14) hx hb dX10_isIn_2 (by decide) (fun c1 => ?_) (fun c2 => ?_)
  · have hw := hw.1 c1
    refine lv_iconst (v := 0) hx hb dX10_isIn_14 (by decide) ?_
    exact x_zret (w1 := fun (u : Unit) => (wld_X10_isIn cI cJ cZ)) hx hb hr hlocks (by decide) () hw hP hD hS dX10_isIn_15
  · have hw := hw.2 c2
    refine lv_iload_n hx hb dX10_isIn_5 rfl (lv_at hl 0 rfl) ?_
    refine lv_iload_n hx hb dX10_isIn_6 rfl (lv_at hl 2 rfl) ?_
    refine lv_icmp_gt (tgt := 14) hx hb dX10_isIn_7 (by decide) (fun c3 => ?_) (fun c4 => ?_)
    · have hw := hw.1 c3
      refine lv_iconst (v := 0) hx hb dX10_isIn_14 (by decide) ?_
      exact x_zret (w1 := fun (u : Unit) => (wld_X10_isIn cI cJ cZ)) hx hb hr hlocks (by decide) () hw hP hD hS dX10_isIn_15
    · have hw := hw.2 c4
      refine lv_iconst (v := 1) hx hb dX10_isIn_10 (by decide) ?_
      refine lv_goto (tgt := 15) hx hb dX10_isIn_11 (by decide) ?_
      exact x_zret (w1 := fun (u : Unit) => (wld_X10_isIn cI cJ cZ)) hx hb hr hlocks (by decide) () hw hP hD hS dX10_isIn_15
abbrev wld_X10_changed (cI cJ cZ : ClassId) (h_p0 : Nat) (ad_p0 : Nat → Nat) (p0_places : Int32) (p0_steps : Int32) (p0_pastFirst : Int32) (p0_past : Int32) (p0_goings : Int32) (p0_rowSize : Int32) (p0_ways : Int32) (p0_hasField : Int32) (p0_fieldSize : Int32) (p0_faultNow : Int32) (p0_hasTree : Int32) (p0_treeSize : Int32) (p0_weightCount : Int32) (p0_roundCount : Int32) (p0_setCount : Int32) : va_W := [(h_p0, .inr (10, [.int p0_places, .int p0_steps, .ref (ad_p0 2), .ref (ad_p0 3), .ref (ad_p0 4), .ref (ad_p0 5), .ref (ad_p0 6), .ref (ad_p0 7), .ref (ad_p0 8), .ref (ad_p0 9), .ref (ad_p0 10), .ref (ad_p0 11), .ref (ad_p0 12), .ref (ad_p0 13), .ref (ad_p0 14), .int p0_pastFirst, .int p0_past, .int p0_goings, .int p0_rowSize, .ref (ad_p0 19), .ref (ad_p0 20), .int p0_ways, .ref (ad_p0 22), .ref (ad_p0 23), .int p0_hasField, .int p0_fieldSize, .ref (ad_p0 26), .ref (ad_p0 27), .ref (ad_p0 28), .ref (ad_p0 29), .ref (ad_p0 30), .ref (ad_p0 31), .ref (ad_p0 32), .int p0_faultNow, .int p0_hasTree, .int p0_treeSize, .ref (ad_p0 36), .ref (ad_p0 37), .ref (ad_p0 38), .ref (ad_p0 39), .ref (ad_p0 40), .ref (ad_p0 41), .ref (ad_p0 42), .int p0_weightCount, .ref (ad_p0 44), .int p0_roundCount, .ref (ad_p0 46), .int p0_setCount, .ref (ad_p0 48), .ref (ad_p0 49)]))]
abbrev q_X10_changed (dC : Nat → ClassId) (dI : Nat → Nat → Nat) (cI cJ cZ : ClassId) (h_p0 : Nat) (ad_p0 : Nat → Nat) (p0_places : Int32) (p0_steps : Int32) (p0_pastFirst : Int32) (p0_past : Int32) (p0_goings : Int32) (p0_rowSize : Int32) (p0_ways : Int32) (p0_hasField : Int32) (p0_fieldSize : Int32) (p0_faultNow : Int32) (p0_hasTree : Int32) (p0_treeSize : Int32) (p0_weightCount : Int32) (p0_roundCount : Int32) (p0_setCount : Int32) (post : (Int32) → (Int32) → (Int32) → (Int32) → (Int32) → (Int32) → (Int32) → (Int32) → Prop) (A : Nat → Prop) : Array Value → State → Outcome → State → Prop := va_Qv (fun (u : (Int32) × (Int32) × (Int32) × (Int32) × (Int32) × (Int32) × (Int32) × (Int32)) => post (u.1) (u.2.1) (u.2.2.1) (u.2.2.2.1) (u.2.2.2.2.1) (u.2.2.2.2.2.1) (u.2.2.2.2.2.2.1) (u.2.2.2.2.2.2.2)) (fun (u : (Int32) × (Int32) × (Int32) × (Int32) × (Int32) × (Int32) × (Int32) × (Int32)) t => xPost (dC, dI) A (wld_X10_changed cI cJ cZ h_p0 ad_p0 p0_places p0_steps p0_pastFirst (u.2.2.2.1) p0_goings p0_rowSize p0_ways (u.2.1) (u.1) p0_faultNow (u.2.2.1) (u.2.2.2.2.2.2.1) (u.2.2.2.2.2.2.2) (u.2.2.2.2.1) (u.2.2.2.2.2.1)) t) A
def w_X10_changed (p0_fieldSize : Int32) (p0_hasField : Int32) (p0_hasTree : Int32) (p0_past : Int32) (p0_roundCount : Int32) (p0_setCount : Int32) (p0_treeSize : Int32) (p0_weightCount : Int32) (post : (Int32) → (Int32) → (Int32) → (Int32) → (Int32) → (Int32) → (Int32) → (Int32) → Prop) : Prop :=
  (post (0 : Int32) (0 : Int32) (0 : Int32) (0 : Int32) (0 : Int32) (0 : Int32) (0 : Int32) (0 : Int32))
set_option maxHeartbeats 4000000 in
set_option maxRecDepth 100000 in
theorem c_X10_changed {l : Launch} {dC : Nat → ClassId} {dI : Nat → Nat → Nat} {sz : Nat} {cI cJ cZ : ClassId} {h_p0 : Nat} {ad_p0 : Nat → Nat} {p0_places : Int32} {p0_steps : Int32} {p0_pastFirst : Int32} {p0_past : Int32} {p0_goings : Int32} {p0_rowSize : Int32} {p0_ways : Int32} {p0_hasField : Int32} {p0_fieldSize : Int32} {p0_faultNow : Int32} {p0_hasTree : Int32} {p0_treeSize : Int32} {p0_weightCount : Int32} {p0_roundCount : Int32} {p0_setCount : Int32}  {post : (Int32) → (Int32) → (Int32) → (Int32) → (Int32) → (Int32) → (Int32) → (Int32) → Prop} (hw : w_X10_changed p0_fieldSize p0_hasField p0_hasTree p0_past p0_roundCount p0_setCount p0_treeSize p0_weightCount post) : Met l yX10_changed wsX10_changed ({ frames := 0, cells := 0, slots := 0, locals := 0 }) (va_Pc [.ref h_p0] (xPre (dC, dI) cI cJ cZ (wld_X10_changed cI cJ cZ h_p0 ad_p0 p0_places p0_steps p0_pastFirst p0_past p0_goings p0_rowSize p0_ways p0_hasField p0_fieldSize p0_faultNow p0_hasTree p0_treeSize p0_weightCount p0_roundCount p0_setCount) sz)) (q_X10_changed dC dI cI cJ cZ h_p0 ad_p0 p0_places p0_steps p0_pastFirst p0_past p0_goings p0_rowSize p0_ways p0_hasField p0_fieldSize p0_faultNow p0_hasTree p0_treeSize p0_weightCount p0_roundCount p0_setCount post (va_A (wld_X10_changed cI cJ cZ h_p0 ad_p0 p0_places p0_steps p0_pastFirst p0_past p0_goings p0_rowSize p0_ways p0_hasField p0_fieldSize p0_faultNow p0_hasTree p0_treeSize p0_weightCount p0_roundCount p0_setCount) sz)) 0 0 (va_A (wld_X10_changed cI cJ cZ h_p0 ad_p0 p0_places p0_steps p0_pastFirst p0_past p0_goings p0_rowSize p0_ways p0_hasField p0_fieldSize p0_faultNow p0_hasTree p0_treeSize p0_weightCount p0_roundCount p0_setCount) sz) := by
  refine x_met (cc := cX10_changed) (maxL := 1) (ret := none) (own := RX10) (Qc := fun A => (q_X10_changed dC dI cI cJ cZ h_p0 ad_p0 p0_places p0_steps p0_pastFirst p0_past p0_goings p0_rowSize p0_ways p0_hasField p0_fieldSize p0_faultNow p0_hasTree p0_treeSize p0_weightCount p0_roundCount p0_setCount post A)) (by decide) rfl rfl (Nat.le_of_ble_eq_true rfl) ?_
  intro p e s m args below meth c A ls E0 hP hD hS hl
  obtain ⟨hx, hb, hr, hml, hown, hts, hlocks, hK, hA, n1, n2⟩ := id E0
  have iX10 : ∀ w ∈ u_ws RX10 TX10 50, w ∈ wsX10_changed := fun w h => List.mem_cons_of_mem _ (List.mem_append_right _ h)
  have hS0 := hS
  have hl : lv_has ls 1 [(0, .ref h_p0)] := hl
  unfold w_X10_changed at hw
  obtain ⟨H, hH⟩ : ∃ H, H = s.heap := ⟨_, rfl⟩
  have hS : va_S A s.heap H [] := by rw [hH]; exact hS
  have hP : va_P (dC, dI) vwCl (wld_X10_changed cI cJ cZ h_p0 ad_p0 p0_places p0_steps p0_pastFirst p0_past p0_goings p0_rowSize p0_ways p0_hasField p0_fieldSize p0_faultNow p0_hasTree p0_treeSize p0_weightCount p0_roundCount p0_setCount) H := by rw [hH]; exact hP
  suffices hG : W p l e ({ frames := 0, cells := 0, slots := 0, locals := 0 }) s m args below meth c H [] 0 0 (MQ below (q_X10_changed dC dI cI cJ cZ h_p0 ad_p0 p0_places p0_steps p0_pastFirst p0_past p0_goings p0_rowSize p0_ways p0_hasField p0_fieldSize p0_faultNow p0_hasTree p0_treeSize p0_weightCount p0_roundCount p0_setCount post A) args s 0 0 A) (F0 m 0 ls []) by rw [hH] at hG; exact hG
  clear hH
  refine lv_aload_n hx hb dX10_changed_0 rfl (lv_at hl 0 rfl) ?_
  refine lv_iconst (v := 0) hx hb dX10_changed_1 (by decide) ?_
  refine va_put (D := (dC, dI)) (ci := 10) (v := .int (0 : Int32)) (ty := .boolean) (C := RX10) (T := TX10) (N := 50) hx hb hts iX10 tyX10 tyX10_ok nmX10 hown hK hP hD hS 0 rfl rfl 24 (by decide) (hts (.fieldLink RX10 133 "NetHouseModel" "hasField" "Z") (by decide +kernel)) (fun _ h9 => h9) rfl (by decide +kernel) (by decide) (by decide) (Nat.le_of_ble_eq_true rfl) dX10_changed_2 (fun H locs hP hD hS => ?_)
  have hP : va_P (dC, dI) vwCl (wld_X10_changed cI cJ cZ h_p0 ad_p0 p0_places p0_steps p0_pastFirst p0_past p0_goings p0_rowSize p0_ways (0 : Int32) p0_fieldSize p0_faultNow p0_hasTree p0_treeSize p0_weightCount p0_roundCount p0_setCount) H := hP
  have hD : va_D A (wld_X10_changed cI cJ cZ h_p0 ad_p0 p0_places p0_steps p0_pastFirst p0_past p0_goings p0_rowSize p0_ways (0 : Int32) p0_fieldSize p0_faultNow p0_hasTree p0_treeSize p0_weightCount p0_roundCount p0_setCount) := hD
  refine lv_aload_n hx hb dX10_changed_5 rfl (lv_at hl 0 rfl) ?_
  refine lv_iconst (v := 0) hx hb dX10_changed_6 (by decide) ?_
  refine va_put (D := (dC, dI)) (ci := 10) (v := .int (0 : Int32)) (ty := .int) (C := RX10) (T := TX10) (N := 50) hx hb hts iX10 tyX10 tyX10_ok nmX10 hown hK hP hD hS 0 rfl rfl 25 (by decide) (hts (.fieldLink RX10 124 "NetHouseModel" "fieldSize" "I") (by decide +kernel)) (fun _ h9 => h9) rfl (by decide +kernel) rfl rfl (Nat.le_of_ble_eq_true rfl) dX10_changed_7 (fun H locs hP hD hS => ?_)
  have hP : va_P (dC, dI) vwCl (wld_X10_changed cI cJ cZ h_p0 ad_p0 p0_places p0_steps p0_pastFirst p0_past p0_goings p0_rowSize p0_ways (0 : Int32) (0 : Int32) p0_faultNow p0_hasTree p0_treeSize p0_weightCount p0_roundCount p0_setCount) H := hP
  have hD : va_D A (wld_X10_changed cI cJ cZ h_p0 ad_p0 p0_places p0_steps p0_pastFirst p0_past p0_goings p0_rowSize p0_ways (0 : Int32) (0 : Int32) p0_faultNow p0_hasTree p0_treeSize p0_weightCount p0_roundCount p0_setCount) := hD
  refine lv_aload_n hx hb dX10_changed_10 rfl (lv_at hl 0 rfl) ?_
  refine lv_iconst (v := 0) hx hb dX10_changed_11 (by decide) ?_
  refine va_put (D := (dC, dI)) (ci := 10) (v := .int (0 : Int32)) (ty := .boolean) (C := RX10) (T := TX10) (N := 50) hx hb hts iX10 tyX10 tyX10_ok nmX10 hown hK hP hD hS 0 rfl rfl 34 (by decide) (hts (.fieldLink RX10 137 "NetHouseModel" "hasTree" "Z") (by decide +kernel)) (fun _ h9 => h9) rfl (by decide +kernel) (by decide) (by decide) (Nat.le_of_ble_eq_true rfl) dX10_changed_12 (fun H locs hP hD hS => ?_)
  have hP : va_P (dC, dI) vwCl (wld_X10_changed cI cJ cZ h_p0 ad_p0 p0_places p0_steps p0_pastFirst p0_past p0_goings p0_rowSize p0_ways (0 : Int32) (0 : Int32) p0_faultNow (0 : Int32) p0_treeSize p0_weightCount p0_roundCount p0_setCount) H := hP
  have hD : va_D A (wld_X10_changed cI cJ cZ h_p0 ad_p0 p0_places p0_steps p0_pastFirst p0_past p0_goings p0_rowSize p0_ways (0 : Int32) (0 : Int32) p0_faultNow (0 : Int32) p0_treeSize p0_weightCount p0_roundCount p0_setCount) := hD
  refine lv_aload_n hx hb dX10_changed_15 rfl (lv_at hl 0 rfl) ?_
  refine lv_iconst (v := 0) hx hb dX10_changed_16 (by decide) ?_
  refine va_put (D := (dC, dI)) (ci := 10) (v := .int (0 : Int32)) (ty := .int) (C := RX10) (T := TX10) (N := 50) hx hb hts iX10 tyX10 tyX10_ok nmX10 hown hK hP hD hS 0 rfl rfl 35 (by decide) (hts (.fieldLink RX10 140 "NetHouseModel" "treeSize" "I") (by decide +kernel)) (fun _ h9 => h9) rfl (by decide +kernel) rfl rfl (Nat.le_of_ble_eq_true rfl) dX10_changed_17 (fun H locs hP hD hS => ?_)
  have hP : va_P (dC, dI) vwCl (wld_X10_changed cI cJ cZ h_p0 ad_p0 p0_places p0_steps p0_pastFirst p0_past p0_goings p0_rowSize p0_ways (0 : Int32) (0 : Int32) p0_faultNow (0 : Int32) (0 : Int32) p0_weightCount p0_roundCount p0_setCount) H := hP
  have hD : va_D A (wld_X10_changed cI cJ cZ h_p0 ad_p0 p0_places p0_steps p0_pastFirst p0_past p0_goings p0_rowSize p0_ways (0 : Int32) (0 : Int32) p0_faultNow (0 : Int32) (0 : Int32) p0_weightCount p0_roundCount p0_setCount) := hD
  refine lv_aload_n hx hb dX10_changed_20 rfl (lv_at hl 0 rfl) ?_
  refine lv_iconst (v := 0) hx hb dX10_changed_21 (by decide) ?_
  refine va_put (D := (dC, dI)) (ci := 10) (v := .int (0 : Int32)) (ty := .int) (C := RX10) (T := TX10) (N := 50) hx hb hts iX10 tyX10 tyX10_ok nmX10 hown hK hP hD hS 0 rfl rfl 43 (by decide) (hts (.fieldLink RX10 143 "NetHouseModel" "weightCount" "I") (by decide +kernel)) (fun _ h9 => h9) rfl (by decide +kernel) rfl rfl (Nat.le_of_ble_eq_true rfl) dX10_changed_22 (fun H locs hP hD hS => ?_)
  have hP : va_P (dC, dI) vwCl (wld_X10_changed cI cJ cZ h_p0 ad_p0 p0_places p0_steps p0_pastFirst p0_past p0_goings p0_rowSize p0_ways (0 : Int32) (0 : Int32) p0_faultNow (0 : Int32) (0 : Int32) (0 : Int32) p0_roundCount p0_setCount) H := hP
  have hD : va_D A (wld_X10_changed cI cJ cZ h_p0 ad_p0 p0_places p0_steps p0_pastFirst p0_past p0_goings p0_rowSize p0_ways (0 : Int32) (0 : Int32) p0_faultNow (0 : Int32) (0 : Int32) (0 : Int32) p0_roundCount p0_setCount) := hD
  refine lv_aload_n hx hb dX10_changed_25 rfl (lv_at hl 0 rfl) ?_
  refine lv_iconst (v := 0) hx hb dX10_changed_26 (by decide) ?_
  refine va_put (D := (dC, dI)) (ci := 10) (v := .int (0 : Int32)) (ty := .int) (C := RX10) (T := TX10) (N := 50) hx hb hts iX10 tyX10 tyX10_ok nmX10 hown hK hP hD hS 0 rfl rfl 45 (by decide) (hts (.fieldLink RX10 146 "NetHouseModel" "roundCount" "I") (by decide +kernel)) (fun _ h9 => h9) rfl (by decide +kernel) rfl rfl (Nat.le_of_ble_eq_true rfl) dX10_changed_27 (fun H locs hP hD hS => ?_)
  have hP : va_P (dC, dI) vwCl (wld_X10_changed cI cJ cZ h_p0 ad_p0 p0_places p0_steps p0_pastFirst p0_past p0_goings p0_rowSize p0_ways (0 : Int32) (0 : Int32) p0_faultNow (0 : Int32) (0 : Int32) (0 : Int32) (0 : Int32) p0_setCount) H := hP
  have hD : va_D A (wld_X10_changed cI cJ cZ h_p0 ad_p0 p0_places p0_steps p0_pastFirst p0_past p0_goings p0_rowSize p0_ways (0 : Int32) (0 : Int32) p0_faultNow (0 : Int32) (0 : Int32) (0 : Int32) (0 : Int32) p0_setCount) := hD
  refine lv_aload_n hx hb dX10_changed_30 rfl (lv_at hl 0 rfl) ?_
  refine lv_iconst (v := 0) hx hb dX10_changed_31 (by decide) ?_
  refine va_put (D := (dC, dI)) (ci := 10) (v := .int (0 : Int32)) (ty := .int) (C := RX10) (T := TX10) (N := 50) hx hb hts iX10 tyX10 tyX10_ok nmX10 hown hK hP hD hS 0 rfl rfl 47 (by decide) (hts (.fieldLink RX10 149 "NetHouseModel" "setCount" "I") (by decide +kernel)) (fun _ h9 => h9) rfl (by decide +kernel) rfl rfl (Nat.le_of_ble_eq_true rfl) dX10_changed_32 (fun H locs hP hD hS => ?_)
  have hP : va_P (dC, dI) vwCl (wld_X10_changed cI cJ cZ h_p0 ad_p0 p0_places p0_steps p0_pastFirst p0_past p0_goings p0_rowSize p0_ways (0 : Int32) (0 : Int32) p0_faultNow (0 : Int32) (0 : Int32) (0 : Int32) (0 : Int32) (0 : Int32)) H := hP
  have hD : va_D A (wld_X10_changed cI cJ cZ h_p0 ad_p0 p0_places p0_steps p0_pastFirst p0_past p0_goings p0_rowSize p0_ways (0 : Int32) (0 : Int32) p0_faultNow (0 : Int32) (0 : Int32) (0 : Int32) (0 : Int32) (0 : Int32)) := hD
  refine lv_aload_n hx hb dX10_changed_35 rfl (lv_at hl 0 rfl) ?_
  refine lv_iconst (v := 0) hx hb dX10_changed_36 (by decide) ?_
  refine va_put (D := (dC, dI)) (ci := 10) (v := .int (0 : Int32)) (ty := .int) (C := RX10) (T := TX10) (N := 50) hx hb hts iX10 tyX10 tyX10_ok nmX10 hown hK hP hD hS 0 rfl rfl 16 (by decide) (hts (.fieldLink RX10 152 "NetHouseModel" "past" "I") (by decide +kernel)) (fun _ h9 => h9) rfl (by decide +kernel) rfl rfl (Nat.le_of_ble_eq_true rfl) dX10_changed_37 (fun H locs hP hD hS => ?_)
  have hP : va_P (dC, dI) vwCl (wld_X10_changed cI cJ cZ h_p0 ad_p0 p0_places p0_steps p0_pastFirst (0 : Int32) p0_goings p0_rowSize p0_ways (0 : Int32) (0 : Int32) p0_faultNow (0 : Int32) (0 : Int32) (0 : Int32) (0 : Int32) (0 : Int32)) H := hP
  have hD : va_D A (wld_X10_changed cI cJ cZ h_p0 ad_p0 p0_places p0_steps p0_pastFirst (0 : Int32) p0_goings p0_rowSize p0_ways (0 : Int32) (0 : Int32) p0_faultNow (0 : Int32) (0 : Int32) (0 : Int32) (0 : Int32) (0 : Int32)) := hD
  exact x_vret (w1 := fun (u : (Int32) × (Int32) × (Int32) × (Int32) × (Int32) × (Int32) × (Int32) × (Int32)) => (wld_X10_changed cI cJ cZ h_p0 ad_p0 p0_places p0_steps p0_pastFirst (u.2.2.2.1) p0_goings p0_rowSize p0_ways (u.2.1) (u.1) p0_faultNow (u.2.2.1) (u.2.2.2.2.2.2.1) (u.2.2.2.2.2.2.2) (u.2.2.2.2.1) (u.2.2.2.2.2.1))) hx hb hr hlocks ((0 : Int32), (0 : Int32), (0 : Int32), (0 : Int32), (0 : Int32), (0 : Int32), (0 : Int32), (0 : Int32)) hw hP hD hS dX10_changed_40
abbrev wld_X10_place (cI cJ cZ : ClassId) (h_p0 : Nat) (ad_p0 : Nat → Nat) (p0_places : Int32) (p0_steps : Int32) (p0_pastFirst : Int32) (p0_past : Int32) (p0_goings : Int32) (p0_rowSize : Int32) (p0_ways : Int32) (p0_hasField : Int32) (p0_fieldSize : Int32) (p0_faultNow : Int32) (p0_hasTree : Int32) (p0_treeSize : Int32) (p0_weightCount : Int32) (p0_roundCount : Int32) (p0_setCount : Int32) (p0_colour : Nat → Int32) (p0_has : Nat → Int32) : va_W := [(h_p0, .inr (10, [.int p0_places, .int p0_steps, .ref (ad_p0 2), .ref (ad_p0 3), .ref (ad_p0 4), .ref (ad_p0 5), .ref (ad_p0 6), .ref (ad_p0 7), .ref (ad_p0 8), .ref (ad_p0 9), .ref (ad_p0 10), .ref (ad_p0 11), .ref (ad_p0 12), .ref (ad_p0 13), .ref (ad_p0 14), .int p0_pastFirst, .int p0_past, .int p0_goings, .int p0_rowSize, .ref (ad_p0 19), .ref (ad_p0 20), .int p0_ways, .ref (ad_p0 22), .ref (ad_p0 23), .int p0_hasField, .int p0_fieldSize, .ref (ad_p0 26), .ref (ad_p0 27), .ref (ad_p0 28), .ref (ad_p0 29), .ref (ad_p0 30), .ref (ad_p0 31), .ref (ad_p0 32), .int p0_faultNow, .int p0_hasTree, .int p0_treeSize, .ref (ad_p0 36), .ref (ad_p0 37), .ref (ad_p0 38), .ref (ad_p0 39), .ref (ad_p0 40), .ref (ad_p0 41), .ref (ad_p0 42), .int p0_weightCount, .ref (ad_p0 44), .int p0_roundCount, .ref (ad_p0 46), .int p0_setCount, .ref (ad_p0 48), .ref (ad_p0 49)])), ((ad_p0 2), .inl (cI, 16, .inl p0_colour)), ((ad_p0 10), .inl (cI, 16, .inl p0_has))]
abbrev q_X10_place (dC : Nat → ClassId) (dI : Nat → Nat → Nat) (cI cJ cZ : ClassId) (h_p0 : Nat) (ad_p0 : Nat → Nat) (p0_places : Int32) (p0_steps : Int32) (p0_pastFirst : Int32) (p0_past : Int32) (p0_goings : Int32) (p0_rowSize : Int32) (p0_ways : Int32) (p0_hasField : Int32) (p0_fieldSize : Int32) (p0_faultNow : Int32) (p0_hasTree : Int32) (p0_treeSize : Int32) (p0_weightCount : Int32) (p0_roundCount : Int32) (p0_setCount : Int32) (p0_colour : Nat → Int32) (p0_has : Nat → Int32) (post : Int32 → (Int32) → (Int32) → (Int32) → (Int32) → (Int32) → (Int32) → (Int32) → (Int32) → (Int32) → (Nat → Int32) → (Nat → Int32) → Prop) (A : Nat → Prop) : Array Value → State → Outcome → State → Prop := va_Qi (fun r (u : (Int32) × (Int32) × (Int32) × (Int32) × (Int32) × (Int32) × (Int32) × (Int32) × (Int32) × (Nat → Int32) × (Nat → Int32)) => post r (u.1) (u.2.1) (u.2.2.1) (u.2.2.2.1) (u.2.2.2.2.1) (u.2.2.2.2.2.1) (u.2.2.2.2.2.2.1) (u.2.2.2.2.2.2.2.1) (u.2.2.2.2.2.2.2.2.1) (u.2.2.2.2.2.2.2.2.2.1) (u.2.2.2.2.2.2.2.2.2.2)) (fun (u : (Int32) × (Int32) × (Int32) × (Int32) × (Int32) × (Int32) × (Int32) × (Int32) × (Int32) × (Nat → Int32) × (Nat → Int32)) t => xPost (dC, dI) A (wld_X10_place cI cJ cZ h_p0 ad_p0 (u.2.2.2.2.1) p0_steps p0_pastFirst (u.2.2.2.1) p0_goings p0_rowSize p0_ways (u.2.1) (u.1) p0_faultNow (u.2.2.1) (u.2.2.2.2.2.2.2.1) (u.2.2.2.2.2.2.2.2.1) (u.2.2.2.2.2.1) (u.2.2.2.2.2.2.1) (u.2.2.2.2.2.2.2.2.2.1) (u.2.2.2.2.2.2.2.2.2.2)) t) A
def w_X10_place (p0_fieldSize : Int32) (p0_hasField : Int32) (p0_hasTree : Int32) (p0_past : Int32) (p0_places : Int32) (p0_roundCount : Int32) (p0_setCount : Int32) (p0_treeSize : Int32) (p0_weightCount : Int32) (p0_colour : Nat → Int32) (p0_has : Nat → Int32) (a1 : Int32) (post : Int32 → (Int32) → (Int32) → (Int32) → (Int32) → (Int32) → (Int32) → (Int32) → (Int32) → (Int32) → (Nat → Int32) → (Nat → Int32) → Prop) : Prop :=
  w_X10_isIn a1 (0 : Int32) (1 : Int32) (fun r1 =>
  (¬ r1 = 0 →
    (¬ p0_places = (16 : Int32) →
      w_X10_changed p0_fieldSize p0_hasField p0_hasTree p0_past p0_roundCount p0_setCount p0_treeSize p0_weightCount (fun y6 y7 y8 y9 y10 y11 y12 y13 =>
      vp_in p0_places 16 ∧
      vp_in p0_places 16 ∧
      ∀ x14 : Int32, x14 = (p0_places + (1 : Int32)) →
      (post (x14 - (1 : Int32)) y6 y7 y8 y9 x14 y10 y11 y12 y13 (upd p0_colour p0_places.toNatClampNeg a1) (upd p0_has p0_places.toNatClampNeg (0 : Int32))))) ∧
    (p0_places = (16 : Int32) →
      (post (-2000000003 : Int32) p0_fieldSize p0_hasField p0_hasTree p0_past p0_places p0_roundCount p0_setCount p0_treeSize p0_weightCount p0_colour p0_has))) ∧
  (r1 = 0 →
    (post (-2000000001 : Int32) p0_fieldSize p0_hasField p0_hasTree p0_past p0_places p0_roundCount p0_setCount p0_treeSize p0_weightCount p0_colour p0_has)))
set_option maxHeartbeats 4000000 in
set_option maxRecDepth 100000 in
theorem c_X10_place {l : Launch} {dC : Nat → ClassId} {dI : Nat → Nat → Nat} {sz : Nat} {cI cJ cZ : ClassId} {h_p0 : Nat} {ad_p0 : Nat → Nat} {p0_places : Int32} {p0_steps : Int32} {p0_pastFirst : Int32} {p0_past : Int32} {p0_goings : Int32} {p0_rowSize : Int32} {p0_ways : Int32} {p0_hasField : Int32} {p0_fieldSize : Int32} {p0_faultNow : Int32} {p0_hasTree : Int32} {p0_treeSize : Int32} {p0_weightCount : Int32} {p0_roundCount : Int32} {p0_setCount : Int32} {p0_colour : Nat → Int32} {p0_has : Nat → Int32} {a1 : Int32} {post : Int32 → (Int32) → (Int32) → (Int32) → (Int32) → (Int32) → (Int32) → (Int32) → (Int32) → (Int32) → (Nat → Int32) → (Nat → Int32) → Prop} (hw : w_X10_place p0_fieldSize p0_hasField p0_hasTree p0_past p0_places p0_roundCount p0_setCount p0_treeSize p0_weightCount p0_colour p0_has a1 post) : Met l yX10_place wsX10_place ({ frames := 1, cells := 0, slots := 0, locals := 22 }) (va_Pc [.ref h_p0, .int a1] (xPre (dC, dI) cI cJ cZ (wld_X10_place cI cJ cZ h_p0 ad_p0 p0_places p0_steps p0_pastFirst p0_past p0_goings p0_rowSize p0_ways p0_hasField p0_fieldSize p0_faultNow p0_hasTree p0_treeSize p0_weightCount p0_roundCount p0_setCount p0_colour p0_has) sz)) (q_X10_place dC dI cI cJ cZ h_p0 ad_p0 p0_places p0_steps p0_pastFirst p0_past p0_goings p0_rowSize p0_ways p0_hasField p0_fieldSize p0_faultNow p0_hasTree p0_treeSize p0_weightCount p0_roundCount p0_setCount p0_colour p0_has post (va_A (wld_X10_place cI cJ cZ h_p0 ad_p0 p0_places p0_steps p0_pastFirst p0_past p0_goings p0_rowSize p0_ways p0_hasField p0_fieldSize p0_faultNow p0_hasTree p0_treeSize p0_weightCount p0_roundCount p0_setCount p0_colour p0_has) sz)) 0 0 (va_A (wld_X10_place cI cJ cZ h_p0 ad_p0 p0_places p0_steps p0_pastFirst p0_past p0_goings p0_rowSize p0_ways p0_hasField p0_fieldSize p0_faultNow p0_hasTree p0_treeSize p0_weightCount p0_roundCount p0_setCount p0_colour p0_has) sz) := by
  refine x_met (cc := cX10_place) (maxL := 2) (ret := (some .int)) (own := RX10) (Qc := fun A => (q_X10_place dC dI cI cJ cZ h_p0 ad_p0 p0_places p0_steps p0_pastFirst p0_past p0_goings p0_rowSize p0_ways p0_hasField p0_fieldSize p0_faultNow p0_hasTree p0_treeSize p0_weightCount p0_roundCount p0_setCount p0_colour p0_has post A)) (by decide) rfl rfl (Nat.le_of_ble_eq_true rfl) ?_
  intro p e s m args below meth c A ls E0 hP hD hS hl
  obtain ⟨hx, hb, hr, hml, hown, hts, hlocks, hK, hA, n1, n2⟩ := id E0
  have iX10 : ∀ w ∈ u_ws RX10 TX10 50, w ∈ wsX10_place := fun w h => List.mem_cons_of_mem _ (List.mem_append_right _ h)
  have hS0 := hS
  have hl : lv_has ls 2 [(0, .ref h_p0), (1, .int a1)] := hl
  unfold w_X10_place at hw
  obtain ⟨H, hH⟩ : ∃ H, H = s.heap := ⟨_, rfl⟩
  have hS : va_S A s.heap H [] := by rw [hH]; exact hS
  have hP : va_P (dC, dI) vwCl (wld_X10_place cI cJ cZ h_p0 ad_p0 p0_places p0_steps p0_pastFirst p0_past p0_goings p0_rowSize p0_ways p0_hasField p0_fieldSize p0_faultNow p0_hasTree p0_treeSize p0_weightCount p0_roundCount p0_setCount p0_colour p0_has) H := by rw [hH]; exact hP
  suffices hG : W p l e ({ frames := 1, cells := 0, slots := 0, locals := 22 }) s m args below meth c H [] 0 0 (MQ below (q_X10_place dC dI cI cJ cZ h_p0 ad_p0 p0_places p0_steps p0_pastFirst p0_past p0_goings p0_rowSize p0_ways p0_hasField p0_fieldSize p0_faultNow p0_hasTree p0_treeSize p0_weightCount p0_roundCount p0_setCount p0_colour p0_has post A) args s 0 0 A) (F0 m 0 ls []) by rw [hH] at hG; exact hG
  clear hH
  refine lv_iload_n hx hb dX10_place_0 rfl (lv_at hl 1 rfl) ?_
  refine lv_iconst (v := 0) hx hb dX10_place_1 (by decide) ?_
  refine lv_iconst (v := 1) hx hb dX10_place_2 (by decide) ?_
  obtain ⟨hPc, hDc⟩ := x_sub (wc := (wld_X10_isIn cI cJ cZ )) hP hD [] (n := 3) rfl rfl (by decide +kernel)
  refine x_calli (ws' := fun (u : Unit) => (wld_X10_place cI cJ cZ h_p0 ad_p0 p0_places p0_steps p0_pastFirst p0_past p0_goings p0_rowSize p0_ways p0_hasField p0_fieldSize p0_faultNow p0_hasTree p0_treeSize p0_weightCount p0_roundCount p0_setCount p0_colour p0_has)) hP hD hS hA [] [0, 1, 2] [0, 1, 2] (n := 3) (k := 0) rfl (fun _ => rfl) rfl (by decide +kernel) (fun _ => rfl) (va_runS (As := [.int a1, .int (0 : Int32), .int (1 : Int32)]) (rest := []) ⟨hx, hb, hml, hown, hts⟩ (c_X10_isIn (l := l) (dC := dC) (dI := dI) (cI := cI) (cJ := cJ) (cZ := cZ) (sz := H.size) hw) (va_cwS 3 hts gX10_place_X10_isIn rfl rfl rfl (by decide +kernel) ⟨Nat.le_of_ble_eq_true rfl, Nat.le_of_ble_eq_true rfl⟩) ⟨xPre_blind, xPre_at hK hPc hDc n1 n2⟩ rfl rfl hl.1 rfl (lv_room (Nat.le_of_ble_eq_true rfl)) dX10_place_3 ⟨Nat.zero_le _, Nat.zero_le _⟩) (fun r1 u H locs hw hP hD hS => ?_)
  try dsimp only at hw
  have hP : va_P (dC, dI) vwCl (wld_X10_place cI cJ cZ h_p0 ad_p0 p0_places p0_steps p0_pastFirst p0_past p0_goings p0_rowSize p0_ways p0_hasField p0_fieldSize p0_faultNow p0_hasTree p0_treeSize p0_weightCount p0_roundCount p0_setCount p0_colour p0_has) H := hP
  have hD : va_D A (wld_X10_place cI cJ cZ h_p0 ad_p0 p0_places p0_steps p0_pastFirst p0_past p0_goings p0_rowSize p0_ways p0_hasField p0_fieldSize p0_faultNow p0_hasTree p0_treeSize p0_weightCount p0_roundCount p0_setCount p0_colour p0_has) := hD
  refine lv_if_ne (tgt := 12) hx hb dX10_place_6 (by decide) (fun c2 => ?_) (fun c3 => ?_)
  · have hw := hw.1 c2
    refine lv_aload_n hx hb dX10_place_12 rfl (lv_at hl 0 rfl) ?_
    refine va_get (D := (dC, dI)) (ci := 10) (v := .int p0_places) (C := RX10) (T := TX10) (N := 50) hx hb hts iX10 hown hK hP 0 rfl rfl 0 (by decide) (hts (.fieldLink RX10 127 "NetHouseModel" "places" "I") (by decide +kernel)) (fun _ h9 => h9) rfl dX10_place_13 ?_
    refine lv_bipush (v := 16) hx hb dX10_place_16 (by decide) ?_
    refine lv_icmp_ne (tgt := 24) hx hb dX10_place_18 (by decide) (fun c4 => ?_) (fun c5 => ?_)
    · have hw := hw.1 c4
      refine lv_aload_n hx hb dX10_place_24 rfl (lv_at hl 0 rfl) ?_
      obtain ⟨hPc, hDc⟩ := x_sub (wc := (wld_X10_changed cI cJ cZ h_p0 ad_p0 p0_places p0_steps p0_pastFirst p0_past p0_goings p0_rowSize p0_ways p0_hasField p0_fieldSize p0_faultNow p0_hasTree p0_treeSize p0_weightCount p0_roundCount p0_setCount)) hP hD [0] (n := 3) rfl rfl (by decide +kernel)
      refine x_callv (ws' := fun (u : (Int32) × (Int32) × (Int32) × (Int32) × (Int32) × (Int32) × (Int32) × (Int32)) => (wld_X10_place cI cJ cZ h_p0 ad_p0 p0_places p0_steps p0_pastFirst (u.2.2.2.1) p0_goings p0_rowSize p0_ways (u.2.1) (u.1) p0_faultNow (u.2.2.1) (u.2.2.2.2.2.2.1) (u.2.2.2.2.2.2.2) (u.2.2.2.2.1) (u.2.2.2.2.2.1) p0_colour p0_has)) hP hD hS hA [0] [1, 2] [2, 0, 1] (n := 3) (k := 1) rfl (fun _ => rfl) rfl (by decide +kernel) (fun _ => rfl) (va_runV (As := []) (rest := []) ⟨hx, hb, hml, hown, hts⟩ (c_X10_changed (l := l) (dC := dC) (dI := dI) (cI := cI) (cJ := cJ) (cZ := cZ) (sz := H.size) (h_p0 := h_p0) (ad_p0 := ad_p0) (p0_places := p0_places) (p0_steps := p0_steps) (p0_pastFirst := p0_pastFirst) (p0_past := p0_past) (p0_goings := p0_goings) (p0_rowSize := p0_rowSize) (p0_ways := p0_ways) (p0_hasField := p0_hasField) (p0_fieldSize := p0_fieldSize) (p0_faultNow := p0_faultNow) (p0_hasTree := p0_hasTree) (p0_treeSize := p0_treeSize) (p0_weightCount := p0_weightCount) (p0_roundCount := p0_roundCount) (p0_setCount := p0_setCount) hw) (cwV 0 hts gX10_place_X10_changed rfl rfl rfl (by decide +kernel) ⟨Nat.le_of_ble_eq_true rfl, Nat.le_of_ble_eq_true rfl⟩) ⟨xPre_blind, va_recv hK hP (ci := 10) (q0 := 0) rfl rfl, xPre_at hK hPc hDc n1 n2⟩ rfl rfl hl.1 rfl (lv_room (Nat.le_of_ble_eq_true rfl)) dX10_place_25 ⟨Nat.zero_le _, Nat.zero_le _⟩) (fun u H locs hw hP hD hS => ?_)
      obtain ⟨y6, y7, y8, y9, y10, y11, y12, y13⟩ := u
      try dsimp only at hw
      have hP : va_P (dC, dI) vwCl (wld_X10_place cI cJ cZ h_p0 ad_p0 p0_places p0_steps p0_pastFirst y9 p0_goings p0_rowSize p0_ways y7 y6 p0_faultNow y8 y12 y13 y10 y11 p0_colour p0_has) H := hP
      have hD : va_D A (wld_X10_place cI cJ cZ h_p0 ad_p0 p0_places p0_steps p0_pastFirst y9 p0_goings p0_rowSize p0_ways y7 y6 p0_faultNow y8 y12 y13 y10 y11 p0_colour p0_has) := hD
      refine lv_aload_n hx hb dX10_place_28 rfl (lv_at hl 0 rfl) ?_
      refine va_get (D := (dC, dI)) (ci := 10) (v := .ref (ad_p0 2)) (C := RX10) (T := TX10) (N := 50) hx hb hts iX10 hown hK hP 0 rfl rfl 2 (by decide) (hts (.fieldLink RX10 7 "NetHouseModel" "colour" "[I") (by decide +kernel)) (fun _ h9 => h9) rfl dX10_place_29 ?_
      refine lv_aload_n hx hb dX10_place_32 rfl (lv_at hl 0 rfl) ?_
      refine va_get (D := (dC, dI)) (ci := 10) (v := .int p0_places) (C := RX10) (T := TX10) (N := 50) hx hb hts iX10 hown hK hP 0 rfl rfl 0 (by decide) (hts (.fieldLink RX10 127 "NetHouseModel" "places" "I") (by decide +kernel)) (fun _ h9 => h9) rfl dX10_place_33 ?_
      refine lv_iload_n hx hb dX10_place_36 rfl (lv_at hl 1 rfl) ?_
      refine va_iast hx hb hK hP hD hS 1 0 rfl rfl hw.1 dX10_place_37 (fun H locs hP hD hS => ?_)
      have hw := hw.2
      have hP : va_P (dC, dI) vwCl (wld_X10_place cI cJ cZ h_p0 ad_p0 p0_places p0_steps p0_pastFirst y9 p0_goings p0_rowSize p0_ways y7 y6 p0_faultNow y8 y12 y13 y10 y11 (upd p0_colour p0_places.toNatClampNeg a1) p0_has) H := hP
      have hD : va_D A (wld_X10_place cI cJ cZ h_p0 ad_p0 p0_places p0_steps p0_pastFirst y9 p0_goings p0_rowSize p0_ways y7 y6 p0_faultNow y8 y12 y13 y10 y11 (upd p0_colour p0_places.toNatClampNeg a1) p0_has) := hD
      refine lv_aload_n hx hb dX10_place_38 rfl (lv_at hl 0 rfl) ?_
      refine va_get (D := (dC, dI)) (ci := 10) (v := .ref (ad_p0 10)) (C := RX10) (T := TX10) (N := 50) hx hb hts iX10 hown hK hP 0 rfl rfl 10 (by decide) (hts (.fieldLink RX10 34 "NetHouseModel" "has" "[I") (by decide +kernel)) (fun _ h9 => h9) rfl dX10_place_39 ?_
      refine lv_aload_n hx hb dX10_place_42 rfl (lv_at hl 0 rfl) ?_
      refine va_get (D := (dC, dI)) (ci := 10) (v := .int p0_places) (C := RX10) (T := TX10) (N := 50) hx hb hts iX10 hown hK hP 0 rfl rfl 0 (by decide) (hts (.fieldLink RX10 127 "NetHouseModel" "places" "I") (by decide +kernel)) (fun _ h9 => h9) rfl dX10_place_43 ?_
      refine lv_iconst (v := 0) hx hb dX10_place_46 (by decide) ?_
      refine va_iast hx hb hK hP hD hS 2 0 rfl rfl hw.1 dX10_place_47 (fun H locs hP hD hS => ?_)
      have hw := hw.2
      have hP : va_P (dC, dI) vwCl (wld_X10_place cI cJ cZ h_p0 ad_p0 p0_places p0_steps p0_pastFirst y9 p0_goings p0_rowSize p0_ways y7 y6 p0_faultNow y8 y12 y13 y10 y11 (upd p0_colour p0_places.toNatClampNeg a1) (upd p0_has p0_places.toNatClampNeg (0 : Int32))) H := hP
      have hD : va_D A (wld_X10_place cI cJ cZ h_p0 ad_p0 p0_places p0_steps p0_pastFirst y9 p0_goings p0_rowSize p0_ways y7 y6 p0_faultNow y8 y12 y13 y10 y11 (upd p0_colour p0_places.toNatClampNeg a1) (upd p0_has p0_places.toNatClampNeg (0 : Int32))) := hD
      refine lv_aload_n hx hb dX10_place_48 rfl (lv_at hl 0 rfl) ?_
      refine lv_dup hx hb dX10_place_49 rfl ?_
      refine va_get (D := (dC, dI)) (ci := 10) (v := .int p0_places) (C := RX10) (T := TX10) (N := 50) hx hb hts iX10 hown hK hP 0 rfl rfl 0 (by decide) (hts (.fieldLink RX10 127 "NetHouseModel" "places" "I") (by decide +kernel)) (fun _ h9 => h9) rfl dX10_place_50 ?_
      refine lv_iconst (v := 1) hx hb dX10_place_53 (by decide) ?_
      refine lv_iadd hx hb dX10_place_54 ?_
      refine lv_topi (fun x14 ex14 => ?_)
      have hw := hw x14 ex14
      refine va_put (D := (dC, dI)) (ci := 10) (v := .int x14) (ty := .int) (C := RX10) (T := TX10) (N := 50) hx hb hts iX10 tyX10 tyX10_ok nmX10 hown hK hP hD hS 0 rfl rfl 0 (by decide) (hts (.fieldLink RX10 127 "NetHouseModel" "places" "I") (by decide +kernel)) (fun _ h9 => h9) rfl (by decide +kernel) rfl rfl (Nat.le_of_ble_eq_true rfl) dX10_place_55 (fun H locs hP hD hS => ?_)
      have hP : va_P (dC, dI) vwCl (wld_X10_place cI cJ cZ h_p0 ad_p0 x14 p0_steps p0_pastFirst y9 p0_goings p0_rowSize p0_ways y7 y6 p0_faultNow y8 y12 y13 y10 y11 (upd p0_colour p0_places.toNatClampNeg a1) (upd p0_has p0_places.toNatClampNeg (0 : Int32))) H := hP
      have hD : va_D A (wld_X10_place cI cJ cZ h_p0 ad_p0 x14 p0_steps p0_pastFirst y9 p0_goings p0_rowSize p0_ways y7 y6 p0_faultNow y8 y12 y13 y10 y11 (upd p0_colour p0_places.toNatClampNeg a1) (upd p0_has p0_places.toNatClampNeg (0 : Int32))) := hD
      refine lv_aload_n hx hb dX10_place_58 rfl (lv_at hl 0 rfl) ?_
      refine va_get (D := (dC, dI)) (ci := 10) (v := .int x14) (C := RX10) (T := TX10) (N := 50) hx hb hts iX10 hown hK hP 0 rfl rfl 0 (by decide) (hts (.fieldLink RX10 127 "NetHouseModel" "places" "I") (by decide +kernel)) (fun _ h9 => h9) rfl dX10_place_59 ?_
      refine lv_iconst (v := 1) hx hb dX10_place_62 (by decide) ?_
      refine lv_isub hx hb dX10_place_63 ?_
      exact x_iret (w1 := fun (u : (Int32) × (Int32) × (Int32) × (Int32) × (Int32) × (Int32) × (Int32) × (Int32) × (Int32) × (Nat → Int32) × (Nat → Int32)) => (wld_X10_place cI cJ cZ h_p0 ad_p0 (u.2.2.2.2.1) p0_steps p0_pastFirst (u.2.2.2.1) p0_goings p0_rowSize p0_ways (u.2.1) (u.1) p0_faultNow (u.2.2.1) (u.2.2.2.2.2.2.2.1) (u.2.2.2.2.2.2.2.2.1) (u.2.2.2.2.2.1) (u.2.2.2.2.2.2.1) (u.2.2.2.2.2.2.2.2.2.1) (u.2.2.2.2.2.2.2.2.2.2))) hx hb hr hlocks (y6, y7, y8, y9, x14, y10, y11, y12, y13, (upd p0_colour p0_places.toNatClampNeg a1), (upd p0_has p0_places.toNatClampNeg (0 : Int32))) hw hP hD hS dX10_place_64
    · have hw := hw.2 c5
      refine lv_ldc (v := -2000000003) hx hb hown (hts (.constant RX10 160 (-2000000003)) (by decide +kernel)) dX10_place_21 ?_
      exact x_iret (w1 := fun (u : (Int32) × (Int32) × (Int32) × (Int32) × (Int32) × (Int32) × (Int32) × (Int32) × (Int32) × (Nat → Int32) × (Nat → Int32)) => (wld_X10_place cI cJ cZ h_p0 ad_p0 (u.2.2.2.2.1) p0_steps p0_pastFirst (u.2.2.2.1) p0_goings p0_rowSize p0_ways (u.2.1) (u.1) p0_faultNow (u.2.2.1) (u.2.2.2.2.2.2.2.1) (u.2.2.2.2.2.2.2.2.1) (u.2.2.2.2.2.1) (u.2.2.2.2.2.2.1) (u.2.2.2.2.2.2.2.2.2.1) (u.2.2.2.2.2.2.2.2.2.2))) hx hb hr hlocks (p0_fieldSize, p0_hasField, p0_hasTree, p0_past, p0_places, p0_roundCount, p0_setCount, p0_treeSize, p0_weightCount, p0_colour, p0_has) hw hP hD hS dX10_place_23
  · have hw := hw.2 c3
    refine lv_ldc (v := -2000000001) hx hb hown (hts (.constant RX10 159 (-2000000001)) (by decide +kernel)) dX10_place_9 ?_
    exact x_iret (w1 := fun (u : (Int32) × (Int32) × (Int32) × (Int32) × (Int32) × (Int32) × (Int32) × (Int32) × (Int32) × (Nat → Int32) × (Nat → Int32)) => (wld_X10_place cI cJ cZ h_p0 ad_p0 (u.2.2.2.2.1) p0_steps p0_pastFirst (u.2.2.2.1) p0_goings p0_rowSize p0_ways (u.2.1) (u.1) p0_faultNow (u.2.2.1) (u.2.2.2.2.2.2.2.1) (u.2.2.2.2.2.2.2.2.1) (u.2.2.2.2.2.1) (u.2.2.2.2.2.2.1) (u.2.2.2.2.2.2.2.2.2.1) (u.2.2.2.2.2.2.2.2.2.2))) hx hb hr hlocks (p0_fieldSize, p0_hasField, p0_hasTree, p0_past, p0_places, p0_roundCount, p0_setCount, p0_treeSize, p0_weightCount, p0_colour, p0_has) hw hP hD hS dX10_place_11
abbrev wld_X10_step (cI cJ cZ : ClassId) (h_p0 : Nat) (ad_p0 : Nat → Nat) (p0_places : Int32) (p0_steps : Int32) (p0_pastFirst : Int32) (p0_past : Int32) (p0_goings : Int32) (p0_rowSize : Int32) (p0_ways : Int32) (p0_hasField : Int32) (p0_fieldSize : Int32) (p0_faultNow : Int32) (p0_hasTree : Int32) (p0_treeSize : Int32) (p0_weightCount : Int32) (p0_roundCount : Int32) (p0_setCount : Int32) (p0_sort : Nat → Int32) : va_W := [(h_p0, .inr (10, [.int p0_places, .int p0_steps, .ref (ad_p0 2), .ref (ad_p0 3), .ref (ad_p0 4), .ref (ad_p0 5), .ref (ad_p0 6), .ref (ad_p0 7), .ref (ad_p0 8), .ref (ad_p0 9), .ref (ad_p0 10), .ref (ad_p0 11), .ref (ad_p0 12), .ref (ad_p0 13), .ref (ad_p0 14), .int p0_pastFirst, .int p0_past, .int p0_goings, .int p0_rowSize, .ref (ad_p0 19), .ref (ad_p0 20), .int p0_ways, .ref (ad_p0 22), .ref (ad_p0 23), .int p0_hasField, .int p0_fieldSize, .ref (ad_p0 26), .ref (ad_p0 27), .ref (ad_p0 28), .ref (ad_p0 29), .ref (ad_p0 30), .ref (ad_p0 31), .ref (ad_p0 32), .int p0_faultNow, .int p0_hasTree, .int p0_treeSize, .ref (ad_p0 36), .ref (ad_p0 37), .ref (ad_p0 38), .ref (ad_p0 39), .ref (ad_p0 40), .ref (ad_p0 41), .ref (ad_p0 42), .int p0_weightCount, .ref (ad_p0 44), .int p0_roundCount, .ref (ad_p0 46), .int p0_setCount, .ref (ad_p0 48), .ref (ad_p0 49)])), ((ad_p0 3), .inl (cI, 16, .inl p0_sort))]
abbrev q_X10_step (dC : Nat → ClassId) (dI : Nat → Nat → Nat) (cI cJ cZ : ClassId) (h_p0 : Nat) (ad_p0 : Nat → Nat) (p0_places : Int32) (p0_steps : Int32) (p0_pastFirst : Int32) (p0_past : Int32) (p0_goings : Int32) (p0_rowSize : Int32) (p0_ways : Int32) (p0_hasField : Int32) (p0_fieldSize : Int32) (p0_faultNow : Int32) (p0_hasTree : Int32) (p0_treeSize : Int32) (p0_weightCount : Int32) (p0_roundCount : Int32) (p0_setCount : Int32) (p0_sort : Nat → Int32) (post : Int32 → (Int32) → (Int32) → (Int32) → (Int32) → (Int32) → (Int32) → (Int32) → (Int32) → (Int32) → (Nat → Int32) → Prop) (A : Nat → Prop) : Array Value → State → Outcome → State → Prop := va_Qi (fun r (u : (Int32) × (Int32) × (Int32) × (Int32) × (Int32) × (Int32) × (Int32) × (Int32) × (Int32) × (Nat → Int32)) => post r (u.1) (u.2.1) (u.2.2.1) (u.2.2.2.1) (u.2.2.2.2.1) (u.2.2.2.2.2.1) (u.2.2.2.2.2.2.1) (u.2.2.2.2.2.2.2.1) (u.2.2.2.2.2.2.2.2.1) (u.2.2.2.2.2.2.2.2.2)) (fun (u : (Int32) × (Int32) × (Int32) × (Int32) × (Int32) × (Int32) × (Int32) × (Int32) × (Int32) × (Nat → Int32)) t => xPost (dC, dI) A (wld_X10_step cI cJ cZ h_p0 ad_p0 p0_places (u.2.2.2.2.2.2.1) p0_pastFirst (u.2.2.2.1) p0_goings p0_rowSize p0_ways (u.2.1) (u.1) p0_faultNow (u.2.2.1) (u.2.2.2.2.2.2.2.1) (u.2.2.2.2.2.2.2.2.1) (u.2.2.2.2.1) (u.2.2.2.2.2.1) (u.2.2.2.2.2.2.2.2.2)) t) A
def w_X10_step (p0_fieldSize : Int32) (p0_hasField : Int32) (p0_hasTree : Int32) (p0_past : Int32) (p0_roundCount : Int32) (p0_setCount : Int32) (p0_steps : Int32) (p0_treeSize : Int32) (p0_weightCount : Int32) (p0_sort : Nat → Int32) (a1 : Int32) (post : Int32 → (Int32) → (Int32) → (Int32) → (Int32) → (Int32) → (Int32) → (Int32) → (Int32) → (Int32) → (Nat → Int32) → Prop) : Prop :=
  w_X10_isIn a1 (0 : Int32) (3 : Int32) (fun r1 =>
  (¬ r1 = 0 →
    (¬ p0_steps = (16 : Int32) →
      w_X10_changed p0_fieldSize p0_hasField p0_hasTree p0_past p0_roundCount p0_setCount p0_treeSize p0_weightCount (fun y6 y7 y8 y9 y10 y11 y12 y13 =>
      vp_in p0_steps 16 ∧
      ∀ x14 : Int32, x14 = (p0_steps + (1 : Int32)) →
      (post (x14 - (1 : Int32)) y6 y7 y8 y9 y10 y11 x14 y12 y13 (upd p0_sort p0_steps.toNatClampNeg a1)))) ∧
    (p0_steps = (16 : Int32) →
      (post (-2000000003 : Int32) p0_fieldSize p0_hasField p0_hasTree p0_past p0_roundCount p0_setCount p0_steps p0_treeSize p0_weightCount p0_sort))) ∧
  (r1 = 0 →
    (post (-2000000001 : Int32) p0_fieldSize p0_hasField p0_hasTree p0_past p0_roundCount p0_setCount p0_steps p0_treeSize p0_weightCount p0_sort)))
set_option maxHeartbeats 4000000 in
set_option maxRecDepth 100000 in
theorem c_X10_step {l : Launch} {dC : Nat → ClassId} {dI : Nat → Nat → Nat} {sz : Nat} {cI cJ cZ : ClassId} {h_p0 : Nat} {ad_p0 : Nat → Nat} {p0_places : Int32} {p0_steps : Int32} {p0_pastFirst : Int32} {p0_past : Int32} {p0_goings : Int32} {p0_rowSize : Int32} {p0_ways : Int32} {p0_hasField : Int32} {p0_fieldSize : Int32} {p0_faultNow : Int32} {p0_hasTree : Int32} {p0_treeSize : Int32} {p0_weightCount : Int32} {p0_roundCount : Int32} {p0_setCount : Int32} {p0_sort : Nat → Int32} {a1 : Int32} {post : Int32 → (Int32) → (Int32) → (Int32) → (Int32) → (Int32) → (Int32) → (Int32) → (Int32) → (Int32) → (Nat → Int32) → Prop} (hw : w_X10_step p0_fieldSize p0_hasField p0_hasTree p0_past p0_roundCount p0_setCount p0_steps p0_treeSize p0_weightCount p0_sort a1 post) : Met l yX10_step wsX10_step ({ frames := 1, cells := 0, slots := 0, locals := 22 }) (va_Pc [.ref h_p0, .int a1] (xPre (dC, dI) cI cJ cZ (wld_X10_step cI cJ cZ h_p0 ad_p0 p0_places p0_steps p0_pastFirst p0_past p0_goings p0_rowSize p0_ways p0_hasField p0_fieldSize p0_faultNow p0_hasTree p0_treeSize p0_weightCount p0_roundCount p0_setCount p0_sort) sz)) (q_X10_step dC dI cI cJ cZ h_p0 ad_p0 p0_places p0_steps p0_pastFirst p0_past p0_goings p0_rowSize p0_ways p0_hasField p0_fieldSize p0_faultNow p0_hasTree p0_treeSize p0_weightCount p0_roundCount p0_setCount p0_sort post (va_A (wld_X10_step cI cJ cZ h_p0 ad_p0 p0_places p0_steps p0_pastFirst p0_past p0_goings p0_rowSize p0_ways p0_hasField p0_fieldSize p0_faultNow p0_hasTree p0_treeSize p0_weightCount p0_roundCount p0_setCount p0_sort) sz)) 0 0 (va_A (wld_X10_step cI cJ cZ h_p0 ad_p0 p0_places p0_steps p0_pastFirst p0_past p0_goings p0_rowSize p0_ways p0_hasField p0_fieldSize p0_faultNow p0_hasTree p0_treeSize p0_weightCount p0_roundCount p0_setCount p0_sort) sz) := by
  refine x_met (cc := cX10_step) (maxL := 2) (ret := (some .int)) (own := RX10) (Qc := fun A => (q_X10_step dC dI cI cJ cZ h_p0 ad_p0 p0_places p0_steps p0_pastFirst p0_past p0_goings p0_rowSize p0_ways p0_hasField p0_fieldSize p0_faultNow p0_hasTree p0_treeSize p0_weightCount p0_roundCount p0_setCount p0_sort post A)) (by decide) rfl rfl (Nat.le_of_ble_eq_true rfl) ?_
  intro p e s m args below meth c A ls E0 hP hD hS hl
  obtain ⟨hx, hb, hr, hml, hown, hts, hlocks, hK, hA, n1, n2⟩ := id E0
  have iX10 : ∀ w ∈ u_ws RX10 TX10 50, w ∈ wsX10_step := fun w h => List.mem_cons_of_mem _ (List.mem_append_right _ h)
  have hS0 := hS
  have hl : lv_has ls 2 [(0, .ref h_p0), (1, .int a1)] := hl
  unfold w_X10_step at hw
  obtain ⟨H, hH⟩ : ∃ H, H = s.heap := ⟨_, rfl⟩
  have hS : va_S A s.heap H [] := by rw [hH]; exact hS
  have hP : va_P (dC, dI) vwCl (wld_X10_step cI cJ cZ h_p0 ad_p0 p0_places p0_steps p0_pastFirst p0_past p0_goings p0_rowSize p0_ways p0_hasField p0_fieldSize p0_faultNow p0_hasTree p0_treeSize p0_weightCount p0_roundCount p0_setCount p0_sort) H := by rw [hH]; exact hP
  suffices hG : W p l e ({ frames := 1, cells := 0, slots := 0, locals := 22 }) s m args below meth c H [] 0 0 (MQ below (q_X10_step dC dI cI cJ cZ h_p0 ad_p0 p0_places p0_steps p0_pastFirst p0_past p0_goings p0_rowSize p0_ways p0_hasField p0_fieldSize p0_faultNow p0_hasTree p0_treeSize p0_weightCount p0_roundCount p0_setCount p0_sort post A) args s 0 0 A) (F0 m 0 ls []) by rw [hH] at hG; exact hG
  clear hH
  refine lv_iload_n hx hb dX10_step_0 rfl (lv_at hl 1 rfl) ?_
  refine lv_iconst (v := 0) hx hb dX10_step_1 (by decide) ?_
  refine lv_iconst (v := 3) hx hb dX10_step_2 (by decide) ?_
  obtain ⟨hPc, hDc⟩ := x_sub (wc := (wld_X10_isIn cI cJ cZ )) hP hD [] (n := 2) rfl rfl (by decide +kernel)
  refine x_calli (ws' := fun (u : Unit) => (wld_X10_step cI cJ cZ h_p0 ad_p0 p0_places p0_steps p0_pastFirst p0_past p0_goings p0_rowSize p0_ways p0_hasField p0_fieldSize p0_faultNow p0_hasTree p0_treeSize p0_weightCount p0_roundCount p0_setCount p0_sort)) hP hD hS hA [] [0, 1] [0, 1] (n := 2) (k := 0) rfl (fun _ => rfl) rfl (by decide +kernel) (fun _ => rfl) (va_runS (As := [.int a1, .int (0 : Int32), .int (3 : Int32)]) (rest := []) ⟨hx, hb, hml, hown, hts⟩ (c_X10_isIn (l := l) (dC := dC) (dI := dI) (cI := cI) (cJ := cJ) (cZ := cZ) (sz := H.size) hw) (va_cwS 3 hts gX10_step_X10_isIn rfl rfl rfl (by decide +kernel) ⟨Nat.le_of_ble_eq_true rfl, Nat.le_of_ble_eq_true rfl⟩) ⟨xPre_blind, xPre_at hK hPc hDc n1 n2⟩ rfl rfl hl.1 rfl (lv_room (Nat.le_of_ble_eq_true rfl)) dX10_step_3 ⟨Nat.zero_le _, Nat.zero_le _⟩) (fun r1 u H locs hw hP hD hS => ?_)
  try dsimp only at hw
  have hP : va_P (dC, dI) vwCl (wld_X10_step cI cJ cZ h_p0 ad_p0 p0_places p0_steps p0_pastFirst p0_past p0_goings p0_rowSize p0_ways p0_hasField p0_fieldSize p0_faultNow p0_hasTree p0_treeSize p0_weightCount p0_roundCount p0_setCount p0_sort) H := hP
  have hD : va_D A (wld_X10_step cI cJ cZ h_p0 ad_p0 p0_places p0_steps p0_pastFirst p0_past p0_goings p0_rowSize p0_ways p0_hasField p0_fieldSize p0_faultNow p0_hasTree p0_treeSize p0_weightCount p0_roundCount p0_setCount p0_sort) := hD
  refine lv_if_ne (tgt := 12) hx hb dX10_step_6 (by decide) (fun c2 => ?_) (fun c3 => ?_)
  · have hw := hw.1 c2
    refine lv_aload_n hx hb dX10_step_12 rfl (lv_at hl 0 rfl) ?_
    refine va_get (D := (dC, dI)) (ci := 10) (v := .int p0_steps) (C := RX10) (T := TX10) (N := 50) hx hb hts iX10 hown hK hP 0 rfl rfl 1 (by decide) (hts (.fieldLink RX10 130 "NetHouseModel" "steps" "I") (by decide +kernel)) (fun _ h9 => h9) rfl dX10_step_13 ?_
    refine lv_bipush (v := 16) hx hb dX10_step_16 (by decide) ?_
    refine lv_icmp_ne (tgt := 24) hx hb dX10_step_18 (by decide) (fun c4 => ?_) (fun c5 => ?_)
    · have hw := hw.1 c4
      refine lv_aload_n hx hb dX10_step_24 rfl (lv_at hl 0 rfl) ?_
      obtain ⟨hPc, hDc⟩ := x_sub (wc := (wld_X10_changed cI cJ cZ h_p0 ad_p0 p0_places p0_steps p0_pastFirst p0_past p0_goings p0_rowSize p0_ways p0_hasField p0_fieldSize p0_faultNow p0_hasTree p0_treeSize p0_weightCount p0_roundCount p0_setCount)) hP hD [0] (n := 2) rfl rfl (by decide +kernel)
      refine x_callv (ws' := fun (u : (Int32) × (Int32) × (Int32) × (Int32) × (Int32) × (Int32) × (Int32) × (Int32)) => (wld_X10_step cI cJ cZ h_p0 ad_p0 p0_places p0_steps p0_pastFirst (u.2.2.2.1) p0_goings p0_rowSize p0_ways (u.2.1) (u.1) p0_faultNow (u.2.2.1) (u.2.2.2.2.2.2.1) (u.2.2.2.2.2.2.2) (u.2.2.2.2.1) (u.2.2.2.2.2.1) p0_sort)) hP hD hS hA [0] [1] [1, 0] (n := 2) (k := 1) rfl (fun _ => rfl) rfl (by decide +kernel) (fun _ => rfl) (va_runV (As := []) (rest := []) ⟨hx, hb, hml, hown, hts⟩ (c_X10_changed (l := l) (dC := dC) (dI := dI) (cI := cI) (cJ := cJ) (cZ := cZ) (sz := H.size) (h_p0 := h_p0) (ad_p0 := ad_p0) (p0_places := p0_places) (p0_steps := p0_steps) (p0_pastFirst := p0_pastFirst) (p0_past := p0_past) (p0_goings := p0_goings) (p0_rowSize := p0_rowSize) (p0_ways := p0_ways) (p0_hasField := p0_hasField) (p0_fieldSize := p0_fieldSize) (p0_faultNow := p0_faultNow) (p0_hasTree := p0_hasTree) (p0_treeSize := p0_treeSize) (p0_weightCount := p0_weightCount) (p0_roundCount := p0_roundCount) (p0_setCount := p0_setCount) hw) (cwV 0 hts gX10_step_X10_changed rfl rfl rfl (by decide +kernel) ⟨Nat.le_of_ble_eq_true rfl, Nat.le_of_ble_eq_true rfl⟩) ⟨xPre_blind, va_recv hK hP (ci := 10) (q0 := 0) rfl rfl, xPre_at hK hPc hDc n1 n2⟩ rfl rfl hl.1 rfl (lv_room (Nat.le_of_ble_eq_true rfl)) dX10_step_25 ⟨Nat.zero_le _, Nat.zero_le _⟩) (fun u H locs hw hP hD hS => ?_)
      obtain ⟨y6, y7, y8, y9, y10, y11, y12, y13⟩ := u
      try dsimp only at hw
      have hP : va_P (dC, dI) vwCl (wld_X10_step cI cJ cZ h_p0 ad_p0 p0_places p0_steps p0_pastFirst y9 p0_goings p0_rowSize p0_ways y7 y6 p0_faultNow y8 y12 y13 y10 y11 p0_sort) H := hP
      have hD : va_D A (wld_X10_step cI cJ cZ h_p0 ad_p0 p0_places p0_steps p0_pastFirst y9 p0_goings p0_rowSize p0_ways y7 y6 p0_faultNow y8 y12 y13 y10 y11 p0_sort) := hD
      refine lv_aload_n hx hb dX10_step_28 rfl (lv_at hl 0 rfl) ?_
      refine va_get (D := (dC, dI)) (ci := 10) (v := .ref (ad_p0 3)) (C := RX10) (T := TX10) (N := 50) hx hb hts iX10 hown hK hP 0 rfl rfl 3 (by decide) (hts (.fieldLink RX10 13 "NetHouseModel" "sort" "[I") (by decide +kernel)) (fun _ h9 => h9) rfl dX10_step_29 ?_
      refine lv_aload_n hx hb dX10_step_32 rfl (lv_at hl 0 rfl) ?_
      refine va_get (D := (dC, dI)) (ci := 10) (v := .int p0_steps) (C := RX10) (T := TX10) (N := 50) hx hb hts iX10 hown hK hP 0 rfl rfl 1 (by decide) (hts (.fieldLink RX10 130 "NetHouseModel" "steps" "I") (by decide +kernel)) (fun _ h9 => h9) rfl dX10_step_33 ?_
      refine lv_iload_n hx hb dX10_step_36 rfl (lv_at hl 1 rfl) ?_
      refine va_iast hx hb hK hP hD hS 1 0 rfl rfl hw.1 dX10_step_37 (fun H locs hP hD hS => ?_)
      have hw := hw.2
      have hP : va_P (dC, dI) vwCl (wld_X10_step cI cJ cZ h_p0 ad_p0 p0_places p0_steps p0_pastFirst y9 p0_goings p0_rowSize p0_ways y7 y6 p0_faultNow y8 y12 y13 y10 y11 (upd p0_sort p0_steps.toNatClampNeg a1)) H := hP
      have hD : va_D A (wld_X10_step cI cJ cZ h_p0 ad_p0 p0_places p0_steps p0_pastFirst y9 p0_goings p0_rowSize p0_ways y7 y6 p0_faultNow y8 y12 y13 y10 y11 (upd p0_sort p0_steps.toNatClampNeg a1)) := hD
      refine lv_aload_n hx hb dX10_step_38 rfl (lv_at hl 0 rfl) ?_
      refine lv_dup hx hb dX10_step_39 rfl ?_
      refine va_get (D := (dC, dI)) (ci := 10) (v := .int p0_steps) (C := RX10) (T := TX10) (N := 50) hx hb hts iX10 hown hK hP 0 rfl rfl 1 (by decide) (hts (.fieldLink RX10 130 "NetHouseModel" "steps" "I") (by decide +kernel)) (fun _ h9 => h9) rfl dX10_step_40 ?_
      refine lv_iconst (v := 1) hx hb dX10_step_43 (by decide) ?_
      refine lv_iadd hx hb dX10_step_44 ?_
      refine lv_topi (fun x14 ex14 => ?_)
      have hw := hw x14 ex14
      refine va_put (D := (dC, dI)) (ci := 10) (v := .int x14) (ty := .int) (C := RX10) (T := TX10) (N := 50) hx hb hts iX10 tyX10 tyX10_ok nmX10 hown hK hP hD hS 0 rfl rfl 1 (by decide) (hts (.fieldLink RX10 130 "NetHouseModel" "steps" "I") (by decide +kernel)) (fun _ h9 => h9) rfl (by decide +kernel) rfl rfl (Nat.le_of_ble_eq_true rfl) dX10_step_45 (fun H locs hP hD hS => ?_)
      have hP : va_P (dC, dI) vwCl (wld_X10_step cI cJ cZ h_p0 ad_p0 p0_places x14 p0_pastFirst y9 p0_goings p0_rowSize p0_ways y7 y6 p0_faultNow y8 y12 y13 y10 y11 (upd p0_sort p0_steps.toNatClampNeg a1)) H := hP
      have hD : va_D A (wld_X10_step cI cJ cZ h_p0 ad_p0 p0_places x14 p0_pastFirst y9 p0_goings p0_rowSize p0_ways y7 y6 p0_faultNow y8 y12 y13 y10 y11 (upd p0_sort p0_steps.toNatClampNeg a1)) := hD
      refine lv_aload_n hx hb dX10_step_48 rfl (lv_at hl 0 rfl) ?_
      refine va_get (D := (dC, dI)) (ci := 10) (v := .int x14) (C := RX10) (T := TX10) (N := 50) hx hb hts iX10 hown hK hP 0 rfl rfl 1 (by decide) (hts (.fieldLink RX10 130 "NetHouseModel" "steps" "I") (by decide +kernel)) (fun _ h9 => h9) rfl dX10_step_49 ?_
      refine lv_iconst (v := 1) hx hb dX10_step_52 (by decide) ?_
      refine lv_isub hx hb dX10_step_53 ?_
      exact x_iret (w1 := fun (u : (Int32) × (Int32) × (Int32) × (Int32) × (Int32) × (Int32) × (Int32) × (Int32) × (Int32) × (Nat → Int32)) => (wld_X10_step cI cJ cZ h_p0 ad_p0 p0_places (u.2.2.2.2.2.2.1) p0_pastFirst (u.2.2.2.1) p0_goings p0_rowSize p0_ways (u.2.1) (u.1) p0_faultNow (u.2.2.1) (u.2.2.2.2.2.2.2.1) (u.2.2.2.2.2.2.2.2.1) (u.2.2.2.2.1) (u.2.2.2.2.2.1) (u.2.2.2.2.2.2.2.2.2))) hx hb hr hlocks (y6, y7, y8, y9, y10, y11, x14, y12, y13, (upd p0_sort p0_steps.toNatClampNeg a1)) hw hP hD hS dX10_step_54
    · have hw := hw.2 c5
      refine lv_ldc (v := -2000000003) hx hb hown (hts (.constant RX10 160 (-2000000003)) (by decide +kernel)) dX10_step_21 ?_
      exact x_iret (w1 := fun (u : (Int32) × (Int32) × (Int32) × (Int32) × (Int32) × (Int32) × (Int32) × (Int32) × (Int32) × (Nat → Int32)) => (wld_X10_step cI cJ cZ h_p0 ad_p0 p0_places (u.2.2.2.2.2.2.1) p0_pastFirst (u.2.2.2.1) p0_goings p0_rowSize p0_ways (u.2.1) (u.1) p0_faultNow (u.2.2.1) (u.2.2.2.2.2.2.2.1) (u.2.2.2.2.2.2.2.2.1) (u.2.2.2.2.1) (u.2.2.2.2.2.1) (u.2.2.2.2.2.2.2.2.2))) hx hb hr hlocks (p0_fieldSize, p0_hasField, p0_hasTree, p0_past, p0_roundCount, p0_setCount, p0_steps, p0_treeSize, p0_weightCount, p0_sort) hw hP hD hS dX10_step_23
  · have hw := hw.2 c3
    refine lv_ldc (v := -2000000001) hx hb hown (hts (.constant RX10 159 (-2000000001)) (by decide +kernel)) dX10_step_9 ?_
    exact x_iret (w1 := fun (u : (Int32) × (Int32) × (Int32) × (Int32) × (Int32) × (Int32) × (Int32) × (Int32) × (Int32) × (Nat → Int32)) => (wld_X10_step cI cJ cZ h_p0 ad_p0 p0_places (u.2.2.2.2.2.2.1) p0_pastFirst (u.2.2.2.1) p0_goings p0_rowSize p0_ways (u.2.1) (u.1) p0_faultNow (u.2.2.1) (u.2.2.2.2.2.2.2.1) (u.2.2.2.2.2.2.2.2.1) (u.2.2.2.2.1) (u.2.2.2.2.2.1) (u.2.2.2.2.2.2.2.2.2))) hx hb hr hlocks (p0_fieldSize, p0_hasField, p0_hasTree, p0_past, p0_roundCount, p0_setCount, p0_steps, p0_treeSize, p0_weightCount, p0_sort) hw hP hD hS dX10_step_11
